/-! the calls on fresh objects: never rings image back undo redo verdict -/
set_option maxRecDepth 1000000 in
theorem s_clf_0 : s_out (s_x s_prog s_fty s_ft (s_rows 2 0 (fun _ => 0)) 1945 1299 s_e146.1 0 (lv_args 0 [.ref 0]) [] s_M0) (some (.int 0)) s_M0 s_M0 = true := by decide +kernel
set_option maxRecDepth 1000000 in
theorem s_clf_1 : s_out (s_x s_prog s_fty s_ft (s_rows 2 0 (fun _ => 0)) 1691 1299 s_e242.1 0 (lv_args 0 [.ref 151]) [] s_M0) (some (.int 0)) s_M0 (s_M0.set 151 (11, ([Value.int 0, Value.ref 152, Value.int 0, Value.int 0, Value.int 0, Value.int 0, Value.int 0, Value.ref 153, Value.ref 154, Value.ref 155, Value.ref 156, Value.ref 157, Value.ref 158, Value.ref 159, Value.int 0, Value.ref 160, Value.ref 161, Value.ref 162, Value.int 0, Value.int 99, Value.ref 163, Value.ref 164, Value.ref 165, Value.int 0, Value.int 0, Value.ref 166, Value.ref 167, Value.ref 168, Value.ref 169, Value.ref 170, Value.int 0, Value.int (-1), Value.ref 171, Value.ref 172, Value.ref 173, Value.int 0, Value.int 0, Value.ref 174, Value.ref 175, Value.ref 176, Value.ref 177, Value.ref 178, Value.int 0, Value.ref 179, Value.int 0, Value.ref 180, Value.ref 181, Value.ref 182, Value.ref 183, Value.ref 184] : List Value))) = true := by decide +kernel
set_option maxRecDepth 1000000 in
theorem s_clf_2 : s_out (s_x s_prog s_fty s_ft (s_rows 2 0 (fun _ => 0)) 61 1299 s_e154.1 0 (lv_args 0 [.ref 0]) [] s_M0) (some (.int 0)) s_M0 s_M0 = true := by decide +kernel
set_option maxRecDepth 1000000 in
theorem s_clf_3 : s_out (s_x s_prog s_fty s_ft (s_rows 2 0 (fun _ => 0)) 60 1299 s_e259.1 0 (lv_args 0 [.ref 151]) [] s_M0) (some (.int 0)) s_M0 s_M0 = true := by decide +kernel
set_option maxRecDepth 1000000 in
theorem s_clf_4 : s_out (s_x s_prog s_fty s_ft (s_rows 2 0 (fun _ => 0)) 78 1299 s_e155.1 0 (lv_args 0 [.ref 0]) [] s_M0) (some (.int 0)) s_M0 ((s_M0.set 0 (10, ([Value.ref 1, Value.int 0, Value.ref 2, Value.ref 3, Value.ref 8, Value.ref 73, Value.ref 78, Value.ref 132, Value.ref 135, Value.ref 136, Value.ref 138, Value.int 0] : List Value))).set 12 (13, ([Value.int (-1), Value.int (-1), Value.int (-1)] : List Value))) = true := by decide +kernel
set_option maxRecDepth 1000000 in
theorem s_clf_5 : s_out (s_x s_prog s_fty s_ft (s_rows 2 0 (fun _ => 0)) 134 1299 s_e260.1 0 (lv_args 0 [.ref 151]) [] ((s_M0.set 0 (10, ([Value.ref 1, Value.int 0, Value.ref 2, Value.ref 3, Value.ref 8, Value.ref 73, Value.ref 78, Value.ref 132, Value.ref 135, Value.ref 136, Value.ref 138, Value.int 0] : List Value))).set 12 (13, ([Value.int (-1), Value.int (-1), Value.int (-1)] : List Value)))) (some (.int 0)) ((s_M0.set 0 (10, ([Value.ref 1, Value.int 0, Value.ref 2, Value.ref 3, Value.ref 8, Value.ref 73, Value.ref 78, Value.ref 132, Value.ref 135, Value.ref 136, Value.ref 138, Value.int 0] : List Value))).set 12 (13, ([Value.int (-1), Value.int (-1), Value.int (-1)] : List Value))) ((((s_M0.set 0 (10, ([Value.ref 1, Value.int 0, Value.ref 2, Value.ref 3, Value.ref 8, Value.ref 73, Value.ref 78, Value.ref 132, Value.ref 135, Value.ref 136, Value.ref 138, Value.int 0] : List Value))).set 12 (13, ([Value.int (-1), Value.int (-1), Value.int (-1)] : List Value))).set 151 (11, ([Value.int 0, Value.ref 152, Value.int 0, Value.int 0, Value.int 0, Value.int 0, Value.int 0, Value.ref 153, Value.ref 154, Value.ref 155, Value.ref 156, Value.ref 157, Value.ref 158, Value.ref 159, Value.int 0, Value.ref 160, Value.ref 161, Value.ref 162, Value.int 0, Value.int 99, Value.ref 163, Value.ref 164, Value.ref 165, Value.int 0, Value.int 0, Value.ref 166, Value.ref 167, Value.ref 168, Value.ref 169, Value.ref 170, Value.int 0, Value.int 0, Value.ref 171, Value.ref 172, Value.ref 173, Value.int 1, Value.int 0, Value.ref 174, Value.ref 175, Value.ref 176, Value.ref 177, Value.ref 178, Value.int 0, Value.ref 179, Value.int 0, Value.ref 180, Value.ref 181, Value.ref 182, Value.ref 183, Value.ref 184] : List Value))).set 177 (13, ([Value.int (-1), Value.int (-1), Value.int (-1)] : List Value))) = true := by decide +kernel
set_option maxRecDepth 1000000 in
theorem s_clf_6 : s_out (s_x s_prog s_fty s_ft (s_rows 2 0 (fun _ => 0)) 56 1299 s_e156.1 0 (lv_args 0 [.ref 0]) [] s_M0) (some (.int (-5))) s_M0 s_M0 = true := by decide +kernel
set_option maxRecDepth 1000000 in
theorem s_clf_7 : s_out (s_x s_prog s_fty s_ft (s_rows 2 0 (fun _ => 0)) 55 1299 s_e261.1 0 (lv_args 0 [.ref 151]) [] s_M0) (some (.int (-5))) s_M0 s_M0 = true := by decide +kernel
set_option maxRecDepth 1000000 in
theorem s_clf_8 : s_out (s_x s_prog s_fty s_ft (s_rows 2 0 (fun _ => 0)) 58 1299 s_e157.1 0 (lv_args 0 [.ref 0]) [] s_M0) (some (.int (-5))) s_M0 s_M0 = true := by decide +kernel
set_option maxRecDepth 1000000 in
theorem s_clf_9 : s_out (s_x s_prog s_fty s_ft (s_rows 2 0 (fun _ => 0)) 55 1299 s_e211.1 0 (lv_args 0 [.ref 151]) [] s_M0) (some (.int (-5))) s_M0 s_M0 = true := by decide +kernel
set_option maxRecDepth 1000000 in
theorem s_clf_10 : s_out (s_x s_prog s_fty s_ft (s_rows 2 0 (fun _ => 0)) 60 1299 s_e158.1 0 (lv_args 0 [.ref 0]) [] s_M0) (some (.int (-5))) s_M0 s_M0 = true := by decide +kernel
set_option maxRecDepth 1000000 in
theorem s_clf_11 : s_out (s_x s_prog s_fty s_ft (s_rows 2 0 (fun _ => 0)) 55 1299 s_e212.1 0 (lv_args 0 [.ref 151]) [] s_M0) (some (.int (-5))) s_M0 s_M0 = true := by decide +kernel
set_option maxRecDepth 1000000 in
theorem s_clf_12 : s_out (s_x s_prog s_fty s_ft (s_rows 2 0 (fun _ => 0)) 80 1298 s_e48.1 0 (lv_args 0 [.ref 8]) [] s_M0) (none) s_M0 s_M0 = true := by decide +kernel
set_option maxRecDepth 1000000 in
theorem s_clf_13 : s_out (s_x s_prog s_fty s_ft (s_rows 2 0 (fun _ => 0)) 77 1298 s_e223.1 0 (lv_args 0 [.ref 151]) [] s_M0) (none) s_M0 (s_M0.set 151 (11, ([Value.int 0, Value.ref 152, Value.int 0, Value.int 0, Value.int 0, Value.int 0, Value.int 0, Value.ref 153, Value.ref 154, Value.ref 155, Value.ref 156, Value.ref 157, Value.ref 158, Value.ref 159, Value.int 0, Value.ref 160, Value.ref 161, Value.ref 162, Value.int 0, Value.int 99, Value.ref 163, Value.ref 164, Value.ref 165, Value.int 0, Value.int 0, Value.ref 166, Value.ref 167, Value.ref 168, Value.ref 169, Value.ref 170, Value.int 0, Value.int (-1), Value.ref 171, Value.ref 172, Value.ref 173, Value.int 0, Value.int 0, Value.ref 174, Value.ref 175, Value.ref 176, Value.ref 177, Value.ref 178, Value.int 0, Value.ref 179, Value.int 0, Value.ref 180, Value.ref 181, Value.ref 182, Value.ref 183, Value.ref 184] : List Value))) = true := by decide +kernel
set_option maxHeartbeats 20000000 in
set_option maxRecDepth 100000 in
theorem s_op_never (L : Nat) (xs : Nat → Int32) : s_Ek (s_rows 3 L xs) 1299 s_e146.1 0 (lv_args 0 [.ref 0]) [] s_M0 (fun v M1 => ∃ r : Int32, v = some (.int r) ∧ s_Ek (s_rows 3 L xs) 1299 s_e242.1 0 (lv_args 0 [.ref 151]) [] M1 (fun w _ => w = some (.int r))) := by
  exact s_ek_run s_El_rows s_clf_0 ⟨0, rfl, s_ek_run s_El_rows s_clf_1 rfl⟩
set_option maxHeartbeats 20000000 in
set_option maxRecDepth 100000 in
theorem s_op_rings (L : Nat) (xs : Nat → Int32) : s_Ek (s_rows 3 L xs) 1299 s_e154.1 0 (lv_args 0 [.ref 0]) [] s_M0 (fun v M1 => ∃ r : Int32, v = some (.int r) ∧ s_Ek (s_rows 3 L xs) 1299 s_e259.1 0 (lv_args 0 [.ref 151]) [] M1 (fun w _ => w = some (.int r))) := by
  exact s_ek_run s_El_rows s_clf_2 ⟨0, rfl, s_ek_run s_El_rows s_clf_3 rfl⟩
set_option maxHeartbeats 20000000 in
set_option maxRecDepth 100000 in
theorem s_op_image (L : Nat) (xs : Nat → Int32) : s_Ek (s_rows 3 L xs) 1299 s_e155.1 0 (lv_args 0 [.ref 0]) [] s_M0 (fun v M1 => ∃ r : Int32, v = some (.int r) ∧ s_Ek (s_rows 3 L xs) 1299 s_e260.1 0 (lv_args 0 [.ref 151]) [] M1 (fun w _ => w = some (.int r))) := by
  exact s_ek_run s_El_rows s_clf_4 ⟨0, rfl, s_ek_run s_El_rows s_clf_5 rfl⟩
set_option maxHeartbeats 20000000 in
set_option maxRecDepth 100000 in
theorem s_op_back (L : Nat) (xs : Nat → Int32) : s_Ek (s_rows 3 L xs) 1299 s_e156.1 0 (lv_args 0 [.ref 0]) [] s_M0 (fun v M1 => ∃ r : Int32, v = some (.int r) ∧ s_Ek (s_rows 3 L xs) 1299 s_e261.1 0 (lv_args 0 [.ref 151]) [] M1 (fun w _ => w = some (.int r))) := by
  exact s_ek_run s_El_rows s_clf_6 ⟨(-5), rfl, s_ek_run s_El_rows s_clf_7 rfl⟩
set_option maxHeartbeats 20000000 in
set_option maxRecDepth 100000 in
theorem s_op_undo (L : Nat) (xs : Nat → Int32) : s_Ek (s_rows 3 L xs) 1299 s_e157.1 0 (lv_args 0 [.ref 0]) [] s_M0 (fun v M1 => ∃ r : Int32, v = some (.int r) ∧ s_Ek (s_rows 3 L xs) 1299 s_e211.1 0 (lv_args 0 [.ref 151]) [] M1 (fun w _ => w = some (.int r))) := by
  exact s_ek_run s_El_rows s_clf_8 ⟨(-5), rfl, s_ek_run s_El_rows s_clf_9 rfl⟩
set_option maxHeartbeats 20000000 in
set_option maxRecDepth 100000 in
theorem s_op_redo (L : Nat) (xs : Nat → Int32) : s_Ek (s_rows 3 L xs) 1299 s_e158.1 0 (lv_args 0 [.ref 0]) [] s_M0 (fun v M1 => ∃ r : Int32, v = some (.int r) ∧ s_Ek (s_rows 3 L xs) 1299 s_e212.1 0 (lv_args 0 [.ref 151]) [] M1 (fun w _ => w = some (.int r))) := by
  exact s_ek_run s_El_rows s_clf_10 ⟨(-5), rfl, s_ek_run s_El_rows s_clf_11 rfl⟩
set_option maxHeartbeats 20000000 in
set_option maxRecDepth 100000 in
theorem s_op_verdict (L : Nat) (xs : Nat → Int32) (a : Int32) (b : Int32) : s_Ek (s_rows 3 L xs) 1299 s_e144.1 0 (lv_args 0 [.ref 0, .int a, .int b]) [] s_M0 (fun v M1 => ∃ r : Int32, v = some (.int r) ∧ s_Ek (s_rows 3 L xs) 1299 s_e235.1 0 (lv_args 0 [.ref 151, .int a, .int b]) [] M1 (fun w _ => w = some (.int r))) := by
  show s_Ek (s_rows 3 L xs) 1299 s_e144.1 0 [(0, .ref 0), (1, .int a), (2, .int b)] [] s_M0 _
  refine s_ek_bk 1 (P := 1) (ls' := [(0, .ref 0), (1, .int a), (2, .int b)]) (st' := [.int a]) (M' := s_M0) rfl ?_
  refine s_ek_call (ν := s_e2.1) (P := 4) (as := [.int a]) (r := []) (fun _ => rfl) rfl ?_
  show s_Ek (s_rows 3 L xs) 1298 s_e2.1 0 [(0, .int a)] [] s_M0 _
  refine s_ek_bk 1 (P := 1) (ls' := [(0, .int a)]) (st' := [.int a]) (M' := s_M0) rfl ?_
  refine s_ek_if1 (T := 30) rfl rfl (fun h1 => ?_) (fun h1 => ?_)
  · replace h1 : a.toInt < 0 := h1
    refine s_ek_bk 1 (P := 31) (ls' := [(0, .int a)]) (st' := [.int (-1)]) (M' := s_M0) rfl ?_
    refine s_ek_ret (o := some (.int (-1))) (fun _ => rfl) ?_
    show s_Ek (s_rows 3 L xs) 1299 s_e144.1 4 [(0, .ref 0), (1, .int a), (2, .int b)] [.int (-1)] s_M0 _
    refine s_ek_bk 4 (P := 19) (ls' := [(3, .int (-1)), (0, .ref 0), (1, .int a), (2, .int b)]) (st' := [.int (-1)]) (M' := s_M0) rfl ?_
    refine s_ek_ret (o := some (.int (-1))) (fun _ => rfl) ?_
    refine ⟨(-1), rfl, ?_⟩
    show s_Ek (s_rows 3 L xs) 1299 s_e235.1 0 [(0, .ref 151), (1, .int a), (2, .int b)] [] s_M0 _
    refine s_ek_bk 1 (P := 1) (ls' := [(0, .ref 151), (1, .int a), (2, .int b)]) (st' := [.int a]) (M' := s_M0) rfl ?_
    refine s_ek_call (ν := s_e226.1) (P := 4) (as := [.int a]) (r := []) (fun _ => rfl) rfl ?_
    show s_Ek (s_rows 3 L xs) 1298 s_e226.1 0 [(0, .int a)] [] s_M0 _
    refine s_ek_bk 3 (P := 5) (ls' := [(0, .int a)]) (st' := [.int 444, .int 0, .int a]) (M' := s_M0) rfl ?_
    refine s_ek_call (ν := s_e181.1) (P := 8) (as := [.int a, .int 0, .int 444]) (r := []) (fun _ => rfl) rfl ?_
    show s_Ek (s_rows 3 L xs) 1297 s_e181.1 0 [(0, .int a), (1, .int 0), (2, .int 444)] [] s_M0 _
    refine s_ek_bk 2 (P := 2) (ls' := [(0, .int a), (1, .int 0), (2, .int 444)]) (st' := [.int 0, .int a]) (M' := s_M0) rfl ?_
    refine s_ek_if2 (T := 14) rfl rfl (fun h2 => ?_) (fun h2 => ?_)
    · replace h2 : a.toInt < 0 := h2
      refine s_ek_bk 1 (P := 15) (ls' := [(0, .int a), (1, .int 0), (2, .int 444)]) (st' := [.int 0]) (M' := s_M0) rfl ?_
      refine s_ek_ret (o := some (.int 0)) (fun _ => rfl) ?_
      show s_Ek (s_rows 3 L xs) 1298 s_e226.1 8 [(0, .int a)] [.int 0] s_M0 _
      refine s_ek_bk 2 (P := 35) (ls' := [(0, .int a)]) (st' := [.int 0]) (M' := s_M0) rfl ?_
      refine s_ek_ret (o := some (.int 0)) (fun _ => rfl) ?_
      show s_Ek (s_rows 3 L xs) 1299 s_e235.1 4 [(0, .ref 151), (1, .int a), (2, .int b)] [.int 0] s_M0 _
      refine s_ek_bk 2 (P := 17) (ls' := [(0, .ref 151), (1, .int a), (2, .int b)]) (st' := [.int (-1)]) (M' := s_M0) rfl ?_
      refine s_ek_ret (o := some (.int (-1))) (fun _ => rfl) ?_
      exact rfl
    · replace h2 : ¬ (a.toInt < 0) := h2
      replace h2 : 0 ≤ a.toInt := by omega
      omega
  · replace h1 : ¬ (a.toInt < 0) := h1
    replace h1 : 0 ≤ a.toInt := by omega
    refine s_ek_bk 2 (P := 8) (ls' := [(0, .int a)]) (st' := [.int 444, .int a]) (M' := s_M0) rfl ?_
    refine s_ek_if2 (T := 30) rfl rfl (fun h2 => ?_) (fun h2 => ?_)
    · replace h2 : 444 < a.toInt := h2
      refine s_ek_bk 1 (P := 31) (ls' := [(0, .int a)]) (st' := [.int (-1)]) (M' := s_M0) rfl ?_
      refine s_ek_ret (o := some (.int (-1))) (fun _ => rfl) ?_
      show s_Ek (s_rows 3 L xs) 1299 s_e144.1 4 [(0, .ref 0), (1, .int a), (2, .int b)] [.int (-1)] s_M0 _
      refine s_ek_bk 4 (P := 19) (ls' := [(3, .int (-1)), (0, .ref 0), (1, .int a), (2, .int b)]) (st' := [.int (-1)]) (M' := s_M0) rfl ?_
      refine s_ek_ret (o := some (.int (-1))) (fun _ => rfl) ?_
      refine ⟨(-1), rfl, ?_⟩
      show s_Ek (s_rows 3 L xs) 1299 s_e235.1 0 [(0, .ref 151), (1, .int a), (2, .int b)] [] s_M0 _
      refine s_ek_bk 1 (P := 1) (ls' := [(0, .ref 151), (1, .int a), (2, .int b)]) (st' := [.int a]) (M' := s_M0) rfl ?_
      refine s_ek_call (ν := s_e226.1) (P := 4) (as := [.int a]) (r := []) (fun _ => rfl) rfl ?_
      show s_Ek (s_rows 3 L xs) 1298 s_e226.1 0 [(0, .int a)] [] s_M0 _
      refine s_ek_bk 3 (P := 5) (ls' := [(0, .int a)]) (st' := [.int 444, .int 0, .int a]) (M' := s_M0) rfl ?_
      refine s_ek_call (ν := s_e181.1) (P := 8) (as := [.int a, .int 0, .int 444]) (r := []) (fun _ => rfl) rfl ?_
      show s_Ek (s_rows 3 L xs) 1297 s_e181.1 0 [(0, .int a), (1, .int 0), (2, .int 444)] [] s_M0 _
      refine s_ek_bk 2 (P := 2) (ls' := [(0, .int a), (1, .int 0), (2, .int 444)]) (st' := [.int 0, .int a]) (M' := s_M0) rfl ?_
      refine s_ek_if2 (T := 14) rfl rfl (fun h3 => ?_) (fun h3 => ?_)
      · replace h3 : a.toInt < 0 := h3
        omega
      · replace h3 : ¬ (a.toInt < 0) := h3
        replace h3 : 0 ≤ a.toInt := by omega
        refine s_ek_bk 2 (P := 7) (ls' := [(0, .int a), (1, .int 0), (2, .int 444)]) (st' := [.int 444, .int a]) (M' := s_M0) rfl ?_
        refine s_ek_if2 (T := 14) rfl rfl (fun h4 => ?_) (fun h4 => ?_)
        · replace h4 : 444 < a.toInt := h4
          refine s_ek_bk 1 (P := 15) (ls' := [(0, .int a), (1, .int 0), (2, .int 444)]) (st' := [.int 0]) (M' := s_M0) rfl ?_
          refine s_ek_ret (o := some (.int 0)) (fun _ => rfl) ?_
          show s_Ek (s_rows 3 L xs) 1298 s_e226.1 8 [(0, .int a)] [.int 0] s_M0 _
          refine s_ek_bk 2 (P := 35) (ls' := [(0, .int a)]) (st' := [.int 0]) (M' := s_M0) rfl ?_
          refine s_ek_ret (o := some (.int 0)) (fun _ => rfl) ?_
          show s_Ek (s_rows 3 L xs) 1299 s_e235.1 4 [(0, .ref 151), (1, .int a), (2, .int b)] [.int 0] s_M0 _
          refine s_ek_bk 2 (P := 17) (ls' := [(0, .ref 151), (1, .int a), (2, .int b)]) (st' := [.int (-1)]) (M' := s_M0) rfl ?_
          refine s_ek_ret (o := some (.int (-1))) (fun _ => rfl) ?_
          exact rfl
        · replace h4 : ¬ (444 < a.toInt) := h4
          replace h4 : a.toInt ≤ 444 := by omega
          omega
    · replace h2 : ¬ (444 < a.toInt) := h2
      replace h2 : a.toInt ≤ 444 := by omega
      refine s_ek_bk 6 (P := 19) (ls' := [(0, .int a)]) (st' := [.int 4, .int ((a / 10) - (a / 10) / 10 * 10)]) (M' := s_M0) rfl ?_
      refine s_ek_if2 (T := 30) rfl rfl (fun h3 => ?_) (fun h3 => ?_)
      · replace h3 : 4 < ((a / 10) - (a / 10) / 10 * 10).toInt := h3
        refine s_ek_bk 1 (P := 31) (ls' := [(0, .int a)]) (st' := [.int (-1)]) (M' := s_M0) rfl ?_
        refine s_ek_ret (o := some (.int (-1))) (fun _ => rfl) ?_
        show s_Ek (s_rows 3 L xs) 1299 s_e144.1 4 [(0, .ref 0), (1, .int a), (2, .int b)] [.int (-1)] s_M0 _
        refine s_ek_bk 4 (P := 19) (ls' := [(3, .int (-1)), (0, .ref 0), (1, .int a), (2, .int b)]) (st' := [.int (-1)]) (M' := s_M0) rfl ?_
        refine s_ek_ret (o := some (.int (-1))) (fun _ => rfl) ?_
        refine ⟨(-1), rfl, ?_⟩
        show s_Ek (s_rows 3 L xs) 1299 s_e235.1 0 [(0, .ref 151), (1, .int a), (2, .int b)] [] s_M0 _
        refine s_ek_bk 1 (P := 1) (ls' := [(0, .ref 151), (1, .int a), (2, .int b)]) (st' := [.int a]) (M' := s_M0) rfl ?_
        refine s_ek_call (ν := s_e226.1) (P := 4) (as := [.int a]) (r := []) (fun _ => rfl) rfl ?_
        show s_Ek (s_rows 3 L xs) 1298 s_e226.1 0 [(0, .int a)] [] s_M0 _
        refine s_ek_bk 3 (P := 5) (ls' := [(0, .int a)]) (st' := [.int 444, .int 0, .int a]) (M' := s_M0) rfl ?_
        refine s_ek_call (ν := s_e181.1) (P := 8) (as := [.int a, .int 0, .int 444]) (r := []) (fun _ => rfl) rfl ?_
        show s_Ek (s_rows 3 L xs) 1297 s_e181.1 0 [(0, .int a), (1, .int 0), (2, .int 444)] [] s_M0 _
        refine s_ek_bk 2 (P := 2) (ls' := [(0, .int a), (1, .int 0), (2, .int 444)]) (st' := [.int 0, .int a]) (M' := s_M0) rfl ?_
        refine s_ek_if2 (T := 14) rfl rfl (fun h4 => ?_) (fun h4 => ?_)
        · replace h4 : a.toInt < 0 := h4
          omega
        · replace h4 : ¬ (a.toInt < 0) := h4
          replace h4 : 0 ≤ a.toInt := by omega
          refine s_ek_bk 2 (P := 7) (ls' := [(0, .int a), (1, .int 0), (2, .int 444)]) (st' := [.int 444, .int a]) (M' := s_M0) rfl ?_
          refine s_ek_if2 (T := 14) rfl rfl (fun h5 => ?_) (fun h5 => ?_)
          · replace h5 : 444 < a.toInt := h5
            omega
          · replace h5 : ¬ (444 < a.toInt) := h5
            replace h5 : a.toInt ≤ 444 := by omega
            refine s_ek_bk 2 (P := 15) (ls' := [(0, .int a), (1, .int 0), (2, .int 444)]) (st' := [.int 1]) (M' := s_M0) rfl ?_
            refine s_ek_ret (o := some (.int 1)) (fun _ => rfl) ?_
            show s_Ek (s_rows 3 L xs) 1298 s_e226.1 8 [(0, .int a)] [.int 1] s_M0 _
            refine s_ek_bk 7 (P := 19) (ls' := [(0, .int a)]) (st' := [.int 4, .int ((a / 10) - (a / 10) / 10 * 10)]) (M' := s_M0) rfl ?_
            refine s_ek_if2 (T := 34) rfl rfl (fun h6 => ?_) (fun h6 => ?_)
            · replace h6 : 4 < ((a / 10) - (a / 10) / 10 * 10).toInt := h6
              refine s_ek_bk 1 (P := 35) (ls' := [(0, .int a)]) (st' := [.int 0]) (M' := s_M0) rfl ?_
              refine s_ek_ret (o := some (.int 0)) (fun _ => rfl) ?_
              show s_Ek (s_rows 3 L xs) 1299 s_e235.1 4 [(0, .ref 151), (1, .int a), (2, .int b)] [.int 0] s_M0 _
              refine s_ek_bk 2 (P := 17) (ls' := [(0, .ref 151), (1, .int a), (2, .int b)]) (st' := [.int (-1)]) (M' := s_M0) rfl ?_
              refine s_ek_ret (o := some (.int (-1))) (fun _ => rfl) ?_
              exact rfl
            · replace h6 : ¬ (4 < ((a / 10) - (a / 10) / 10 * 10).toInt) := h6
              replace h6 : ((a / 10) - (a / 10) / 10 * 10).toInt ≤ 4 := by omega
              omega
      · replace h3 : ¬ (4 < ((a / 10) - (a / 10) / 10 * 10).toInt) := h3
        replace h3 : ((a / 10) - (a / 10) / 10 * 10).toInt ≤ 4 := by omega
        refine s_ek_bk 4 (P := 27) (ls' := [(0, .int a)]) (st' := [.int 4, .int (a - a / 10 * 10)]) (M' := s_M0) rfl ?_
        refine s_ek_if2 (T := 32) rfl rfl (fun h4 => ?_) (fun h4 => ?_)
        · replace h4 : (a - a / 10 * 10).toInt ≤ 4 := h4
          refine s_ek_bk 17 (P := 54) (ls' := [(0, .int a)]) (st' := [.int ((((a / 100) * 25) + (((a / 10) - (a / 10) / 10 * 10) * 5)) + (a - a / 10 * 10))]) (M' := s_M0) rfl ?_
          refine s_ek_ret (o := some (.int ((((a / 100) * 25) + (((a / 10) - (a / 10) / 10 * 10) * 5)) + (a - a / 10 * 10)))) (fun _ => rfl) ?_
          show s_Ek (s_rows 3 L xs) 1299 s_e144.1 4 [(0, .ref 0), (1, .int a), (2, .int b)] [.int ((((a / 100) * 25) + (((a / 10) - (a / 10) / 10 * 10) * 5)) + (a - a / 10 * 10))] s_M0 _
          refine s_ek_bk 2 (P := 6) (ls' := [(3, .int ((((a / 100) * 25) + (((a / 10) - (a / 10) / 10 * 10) * 5)) + (a - a / 10 * 10))), (0, .ref 0), (1, .int a), (2, .int b)]) (st' := [.int ((((a / 100) * 25) + (((a / 10) - (a / 10) / 10 * 10) * 5)) + (a - a / 10 * 10))]) (M' := s_M0) rfl ?_
          refine s_ek_if1 (T := 18) rfl rfl (fun h5 => ?_) (fun h5 => ?_)
          · replace h5 : ((((a / 100) * 25) + (((a / 10) - (a / 10) / 10 * 10) * 5)) + (a - a / 10 * 10)).toInt < 0 := h5
            exact absurd h5 (s_vd (by omega) (by omega))
          · replace h5 : ¬ (((((a / 100) * 25) + (((a / 10) - (a / 10) / 10 * 10) * 5)) + (a - a / 10 * 10)).toInt < 0) := h5
            replace h5 : 0 ≤ ((((a / 100) * 25) + (((a / 10) - (a / 10) / 10 * 10) * 5)) + (a - a / 10 * 10)).toInt := by omega
            refine s_ek_bk 1 (P := 10) (ls' := [(3, .int ((((a / 100) * 25) + (((a / 10) - (a / 10) / 10 * 10) * 5)) + (a - a / 10 * 10))), (0, .ref 0), (1, .int a), (2, .int b)]) (st' := [.int b]) (M' := s_M0) rfl ?_
            refine s_ek_if1 (T := 18) rfl rfl (fun h6 => ?_) (fun h6 => ?_)
            · replace h6 : b.toInt < 0 := h6
              refine s_ek_bk 1 (P := 19) (ls' := [(3, .int ((((a / 100) * 25) + (((a / 10) - (a / 10) / 10 * 10) * 5)) + (a - a / 10 * 10))), (0, .ref 0), (1, .int a), (2, .int b)]) (st' := [.int (-1)]) (M' := s_M0) rfl ?_
              refine s_ek_ret (o := some (.int (-1))) (fun _ => rfl) ?_
              refine ⟨(-1), rfl, ?_⟩
              show s_Ek (s_rows 3 L xs) 1299 s_e235.1 0 [(0, .ref 151), (1, .int a), (2, .int b)] [] s_M0 _
              refine s_ek_bk 1 (P := 1) (ls' := [(0, .ref 151), (1, .int a), (2, .int b)]) (st' := [.int a]) (M' := s_M0) rfl ?_
              refine s_ek_call (ν := s_e226.1) (P := 4) (as := [.int a]) (r := []) (fun _ => rfl) rfl ?_
              show s_Ek (s_rows 3 L xs) 1298 s_e226.1 0 [(0, .int a)] [] s_M0 _
              refine s_ek_bk 3 (P := 5) (ls' := [(0, .int a)]) (st' := [.int 444, .int 0, .int a]) (M' := s_M0) rfl ?_
              refine s_ek_call (ν := s_e181.1) (P := 8) (as := [.int a, .int 0, .int 444]) (r := []) (fun _ => rfl) rfl ?_
              show s_Ek (s_rows 3 L xs) 1297 s_e181.1 0 [(0, .int a), (1, .int 0), (2, .int 444)] [] s_M0 _
              refine s_ek_bk 2 (P := 2) (ls' := [(0, .int a), (1, .int 0), (2, .int 444)]) (st' := [.int 0, .int a]) (M' := s_M0) rfl ?_
              refine s_ek_if2 (T := 14) rfl rfl (fun h7 => ?_) (fun h7 => ?_)
              · replace h7 : a.toInt < 0 := h7
                omega
              · replace h7 : ¬ (a.toInt < 0) := h7
                replace h7 : 0 ≤ a.toInt := by omega
                refine s_ek_bk 2 (P := 7) (ls' := [(0, .int a), (1, .int 0), (2, .int 444)]) (st' := [.int 444, .int a]) (M' := s_M0) rfl ?_
                refine s_ek_if2 (T := 14) rfl rfl (fun h8 => ?_) (fun h8 => ?_)
                · replace h8 : 444 < a.toInt := h8
                  omega
                · replace h8 : ¬ (444 < a.toInt) := h8
                  replace h8 : a.toInt ≤ 444 := by omega
                  refine s_ek_bk 2 (P := 15) (ls' := [(0, .int a), (1, .int 0), (2, .int 444)]) (st' := [.int 1]) (M' := s_M0) rfl ?_
                  refine s_ek_ret (o := some (.int 1)) (fun _ => rfl) ?_
                  show s_Ek (s_rows 3 L xs) 1298 s_e226.1 8 [(0, .int a)] [.int 1] s_M0 _
                  refine s_ek_bk 7 (P := 19) (ls' := [(0, .int a)]) (st' := [.int 4, .int ((a / 10) - (a / 10) / 10 * 10)]) (M' := s_M0) rfl ?_
                  refine s_ek_if2 (T := 34) rfl rfl (fun h9 => ?_) (fun h9 => ?_)
                  · replace h9 : 4 < ((a / 10) - (a / 10) / 10 * 10).toInt := h9
                    omega
                  · replace h9 : ¬ (4 < ((a / 10) - (a / 10) / 10 * 10).toInt) := h9
                    replace h9 : ((a / 10) - (a / 10) / 10 * 10).toInt ≤ 4 := by omega
                    refine s_ek_bk 4 (P := 27) (ls' := [(0, .int a)]) (st' := [.int 4, .int (a - a / 10 * 10)]) (M' := s_M0) rfl ?_
                    refine s_ek_if2 (T := 34) rfl rfl (fun h10 => ?_) (fun h10 => ?_)
                    · replace h10 : 4 < (a - a / 10 * 10).toInt := h10
                      omega
                    · replace h10 : ¬ (4 < (a - a / 10 * 10).toInt) := h10
                      replace h10 : (a - a / 10 * 10).toInt ≤ 4 := by omega
                      refine s_ek_bk 2 (P := 35) (ls' := [(0, .int a)]) (st' := [.int 1]) (M' := s_M0) rfl ?_
                      refine s_ek_ret (o := some (.int 1)) (fun _ => rfl) ?_
                      show s_Ek (s_rows 3 L xs) 1299 s_e235.1 4 [(0, .ref 151), (1, .int a), (2, .int b)] [.int 1] s_M0 _
                      refine s_ek_bk 4 (P := 10) (ls' := [(0, .ref 151), (1, .int a), (2, .int b)]) (st' := [.int 2, .int 0, .int b]) (M' := s_M0) rfl ?_
                      refine s_ek_call (ν := s_e181.1) (P := 13) (as := [.int b, .int 0, .int 2]) (r := []) (fun _ => rfl) rfl ?_
                      show s_Ek (s_rows 3 L xs) 1298 s_e181.1 0 [(0, .int b), (1, .int 0), (2, .int 2)] [] s_M0 _
                      refine s_ek_bk 2 (P := 2) (ls' := [(0, .int b), (1, .int 0), (2, .int 2)]) (st' := [.int 0, .int b]) (M' := s_M0) rfl ?_
                      refine s_ek_if2 (T := 14) rfl rfl (fun h11 => ?_) (fun h11 => ?_)
                      · replace h11 : b.toInt < 0 := h11
                        refine s_ek_bk 1 (P := 15) (ls' := [(0, .int b), (1, .int 0), (2, .int 2)]) (st' := [.int 0]) (M' := s_M0) rfl ?_
                        refine s_ek_ret (o := some (.int 0)) (fun _ => rfl) ?_
                        show s_Ek (s_rows 3 L xs) 1299 s_e235.1 13 [(0, .ref 151), (1, .int a), (2, .int b)] [.int 0] s_M0 _
                        refine s_ek_bk 2 (P := 17) (ls' := [(0, .ref 151), (1, .int a), (2, .int b)]) (st' := [.int (-1)]) (M' := s_M0) rfl ?_
                        refine s_ek_ret (o := some (.int (-1))) (fun _ => rfl) ?_
                        exact rfl
                      · replace h11 : ¬ (b.toInt < 0) := h11
                        replace h11 : 0 ≤ b.toInt := by omega
                        omega
            · replace h6 : ¬ (b.toInt < 0) := h6
              replace h6 : 0 ≤ b.toInt := by omega
              refine s_ek_bk 2 (P := 15) (ls' := [(3, .int ((((a / 100) * 25) + (((a / 10) - (a / 10) / 10 * 10) * 5)) + (a - a / 10 * 10))), (0, .ref 0), (1, .int a), (2, .int b)]) (st' := [.int 2, .int b]) (M' := s_M0) rfl ?_
              refine s_ek_if2 (T := 20) rfl rfl (fun h7 => ?_) (fun h7 => ?_)
              · replace h7 : b.toInt ≤ 2 := h7
                refine s_ek_bk 2 (P := 24) (ls' := [(3, .int ((((a / 100) * 25) + (((a / 10) - (a / 10) / 10 * 10) * 5)) + (a - a / 10 * 10))), (0, .ref 0), (1, .int a), (2, .int b)]) (st' := [.ref 8]) (M' := s_M0) rfl ?_
                refine s_ek_call (ν := s_e48.1) (P := 27) (as := [.ref 8]) (r := []) (fun _ => rfl) rfl ?_
                refine s_ek_run s_El_rows s_clf_12 ?_
                show s_Ek (s_rows 3 L xs) 1299 s_e144.1 27 [(3, .int ((((a / 100) * 25) + (((a / 10) - (a / 10) / 10 * 10) * 5)) + (a - a / 10 * 10))), (0, .ref 0), (1, .int a), (2, .int b)] [] s_M0 _
                refine s_ek_bk 6 (P := 39) (ls' := [(3, .int ((((a / 100) * 25) + (((a / 10) - (a / 10) / 10 * 10) * 5)) + (a - a / 10 * 10))), (0, .ref 0), (1, .int a), (2, .int b)]) (st' := [.int 0, .int ((((a / 100) * 25) + (((a / 10) - (a / 10) / 10 * 10) * 5)) + (a - a / 10 * 10)), .ref 8]) (M' := s_M0) rfl ?_
                refine s_ek_call (ν := s_e52.1) (P := 42) (as := [.ref 8, .int ((((a / 100) * 25) + (((a / 10) - (a / 10) / 10 * 10) * 5)) + (a - a / 10 * 10)), .int 0]) (r := []) (fun _ => rfl) rfl ?_
                show s_Ek (s_rows 3 L xs) 1298 s_e52.1 0 [(0, .ref 8), (1, .int ((((a / 100) * 25) + (((a / 10) - (a / 10) / 10 * 10) * 5)) + (a - a / 10 * 10))), (2, .int 0)] [] s_M0 _
                refine s_ek_bk 9 (P := 67) (ls' := [(4, .int 0), (3, .null), (0, .ref 8), (1, .int ((((a / 100) * 25) + (((a / 10) - (a / 10) / 10 * 10) * 5)) + (a - a / 10 * 10))), (2, .int 0)]) (st' := [.null]) (M' := s_M0) rfl ?_
                refine s_ek_ret (o := some (.null)) (fun _ => rfl) ?_
                show s_Ek (s_rows 3 L xs) 1299 s_e144.1 42 [(3, .int ((((a / 100) * 25) + (((a / 10) - (a / 10) / 10 * 10) * 5)) + (a - a / 10 * 10))), (0, .ref 0), (1, .int a), (2, .int b)] [.null] s_M0 _
                refine s_ek_bk 4 (P := 51) (ls' := [(4, .null), (3, .int ((((a / 100) * 25) + (((a / 10) - (a / 10) / 10 * 10) * 5)) + (a - a / 10 * 10))), (0, .ref 0), (1, .int a), (2, .int b)]) (st' := [.int (-2)]) (M' := s_M0) rfl ?_
                refine s_ek_ret (o := some (.int (-2))) (fun _ => rfl) ?_
                refine ⟨(-2), rfl, ?_⟩
                show s_Ek (s_rows 3 L xs) 1299 s_e235.1 0 [(0, .ref 151), (1, .int a), (2, .int b)] [] s_M0 _
                refine s_ek_bk 1 (P := 1) (ls' := [(0, .ref 151), (1, .int a), (2, .int b)]) (st' := [.int a]) (M' := s_M0) rfl ?_
                refine s_ek_call (ν := s_e226.1) (P := 4) (as := [.int a]) (r := []) (fun _ => rfl) rfl ?_
                show s_Ek (s_rows 3 L xs) 1298 s_e226.1 0 [(0, .int a)] [] s_M0 _
                refine s_ek_bk 3 (P := 5) (ls' := [(0, .int a)]) (st' := [.int 444, .int 0, .int a]) (M' := s_M0) rfl ?_
                refine s_ek_call (ν := s_e181.1) (P := 8) (as := [.int a, .int 0, .int 444]) (r := []) (fun _ => rfl) rfl ?_
                show s_Ek (s_rows 3 L xs) 1297 s_e181.1 0 [(0, .int a), (1, .int 0), (2, .int 444)] [] s_M0 _
                refine s_ek_bk 2 (P := 2) (ls' := [(0, .int a), (1, .int 0), (2, .int 444)]) (st' := [.int 0, .int a]) (M' := s_M0) rfl ?_
                refine s_ek_if2 (T := 14) rfl rfl (fun h8 => ?_) (fun h8 => ?_)
                · replace h8 : a.toInt < 0 := h8
                  omega
                · replace h8 : ¬ (a.toInt < 0) := h8
                  replace h8 : 0 ≤ a.toInt := by omega
                  refine s_ek_bk 2 (P := 7) (ls' := [(0, .int a), (1, .int 0), (2, .int 444)]) (st' := [.int 444, .int a]) (M' := s_M0) rfl ?_
                  refine s_ek_if2 (T := 14) rfl rfl (fun h9 => ?_) (fun h9 => ?_)
                  · replace h9 : 444 < a.toInt := h9
                    omega
                  · replace h9 : ¬ (444 < a.toInt) := h9
                    replace h9 : a.toInt ≤ 444 := by omega
                    refine s_ek_bk 2 (P := 15) (ls' := [(0, .int a), (1, .int 0), (2, .int 444)]) (st' := [.int 1]) (M' := s_M0) rfl ?_
                    refine s_ek_ret (o := some (.int 1)) (fun _ => rfl) ?_
                    show s_Ek (s_rows 3 L xs) 1298 s_e226.1 8 [(0, .int a)] [.int 1] s_M0 _
                    refine s_ek_bk 7 (P := 19) (ls' := [(0, .int a)]) (st' := [.int 4, .int ((a / 10) - (a / 10) / 10 * 10)]) (M' := s_M0) rfl ?_
                    refine s_ek_if2 (T := 34) rfl rfl (fun h10 => ?_) (fun h10 => ?_)
                    · replace h10 : 4 < ((a / 10) - (a / 10) / 10 * 10).toInt := h10
                      omega
                    · replace h10 : ¬ (4 < ((a / 10) - (a / 10) / 10 * 10).toInt) := h10
                      replace h10 : ((a / 10) - (a / 10) / 10 * 10).toInt ≤ 4 := by omega
                      refine s_ek_bk 4 (P := 27) (ls' := [(0, .int a)]) (st' := [.int 4, .int (a - a / 10 * 10)]) (M' := s_M0) rfl ?_
                      refine s_ek_if2 (T := 34) rfl rfl (fun h11 => ?_) (fun h11 => ?_)
                      · replace h11 : 4 < (a - a / 10 * 10).toInt := h11
                        omega
                      · replace h11 : ¬ (4 < (a - a / 10 * 10).toInt) := h11
                        replace h11 : (a - a / 10 * 10).toInt ≤ 4 := by omega
                        refine s_ek_bk 2 (P := 35) (ls' := [(0, .int a)]) (st' := [.int 1]) (M' := s_M0) rfl ?_
                        refine s_ek_ret (o := some (.int 1)) (fun _ => rfl) ?_
                        show s_Ek (s_rows 3 L xs) 1299 s_e235.1 4 [(0, .ref 151), (1, .int a), (2, .int b)] [.int 1] s_M0 _
                        refine s_ek_bk 4 (P := 10) (ls' := [(0, .ref 151), (1, .int a), (2, .int b)]) (st' := [.int 2, .int 0, .int b]) (M' := s_M0) rfl ?_
                        refine s_ek_call (ν := s_e181.1) (P := 13) (as := [.int b, .int 0, .int 2]) (r := []) (fun _ => rfl) rfl ?_
                        show s_Ek (s_rows 3 L xs) 1298 s_e181.1 0 [(0, .int b), (1, .int 0), (2, .int 2)] [] s_M0 _
                        refine s_ek_bk 2 (P := 2) (ls' := [(0, .int b), (1, .int 0), (2, .int 2)]) (st' := [.int 0, .int b]) (M' := s_M0) rfl ?_
                        refine s_ek_if2 (T := 14) rfl rfl (fun h12 => ?_) (fun h12 => ?_)
                        · replace h12 : b.toInt < 0 := h12
                          omega
                        · replace h12 : ¬ (b.toInt < 0) := h12
                          replace h12 : 0 ≤ b.toInt := by omega
                          refine s_ek_bk 2 (P := 7) (ls' := [(0, .int b), (1, .int 0), (2, .int 2)]) (st' := [.int 2, .int b]) (M' := s_M0) rfl ?_
                          refine s_ek_if2 (T := 14) rfl rfl (fun h13 => ?_) (fun h13 => ?_)
                          · replace h13 : 2 < b.toInt := h13
                            omega
                          · replace h13 : ¬ (2 < b.toInt) := h13
                            replace h13 : b.toInt ≤ 2 := by omega
                            refine s_ek_bk 2 (P := 15) (ls' := [(0, .int b), (1, .int 0), (2, .int 2)]) (st' := [.int 1]) (M' := s_M0) rfl ?_
                            refine s_ek_ret (o := some (.int 1)) (fun _ => rfl) ?_
                            show s_Ek (s_rows 3 L xs) 1299 s_e235.1 13 [(0, .ref 151), (1, .int a), (2, .int b)] [.int 1] s_M0 _
                            refine s_ek_bk 2 (P := 19) (ls' := [(0, .ref 151), (1, .int a), (2, .int b)]) (st' := [.ref 151]) (M' := s_M0) rfl ?_
                            refine s_ek_call (ν := s_e223.1) (P := 22) (as := [.ref 151]) (r := []) (fun _ => rfl) rfl ?_
                            refine s_ek_run s_El_rows s_clf_13 ?_
                            show s_Ek (s_rows 3 L xs) 1299 s_e235.1 22 [(0, .ref 151), (1, .int a), (2, .int b)] [] (s_M0.set 151 (11, ([Value.int 0, Value.ref 152, Value.int 0, Value.int 0, Value.int 0, Value.int 0, Value.int 0, Value.ref 153, Value.ref 154, Value.ref 155, Value.ref 156, Value.ref 157, Value.ref 158, Value.ref 159, Value.int 0, Value.ref 160, Value.ref 161, Value.ref 162, Value.int 0, Value.int 99, Value.ref 163, Value.ref 164, Value.ref 165, Value.int 0, Value.int 0, Value.ref 166, Value.ref 167, Value.ref 168, Value.ref 169, Value.ref 170, Value.int 0, Value.int (-1), Value.ref 171, Value.ref 172, Value.ref 173, Value.int 0, Value.int 0, Value.ref 174, Value.ref 175, Value.ref 176, Value.ref 177, Value.ref 178, Value.int 0, Value.ref 179, Value.int 0, Value.ref 180, Value.ref 181, Value.ref 182, Value.ref 183, Value.ref 184] : List Value))) _
                            refine s_ek_bk 1 (P := 23) (ls' := [(0, .ref 151), (1, .int a), (2, .int b)]) (st' := [.int a]) (M' := (s_M0.set 151 (11, ([Value.int 0, Value.ref 152, Value.int 0, Value.int 0, Value.int 0, Value.int 0, Value.int 0, Value.ref 153, Value.ref 154, Value.ref 155, Value.ref 156, Value.ref 157, Value.ref 158, Value.ref 159, Value.int 0, Value.ref 160, Value.ref 161, Value.ref 162, Value.int 0, Value.int 99, Value.ref 163, Value.ref 164, Value.ref 165, Value.int 0, Value.int 0, Value.ref 166, Value.ref 167, Value.ref 168, Value.ref 169, Value.ref 170, Value.int 0, Value.int (-1), Value.ref 171, Value.ref 172, Value.ref 173, Value.int 0, Value.int 0, Value.ref 174, Value.ref 175, Value.ref 176, Value.ref 177, Value.ref 178, Value.int 0, Value.ref 179, Value.int 0, Value.ref 180, Value.ref 181, Value.ref 182, Value.ref 183, Value.ref 184] : List Value)))) rfl ?_
                            refine s_ek_call (ν := s_e224.1) (P := 26) (as := [.int a]) (r := []) (fun _ => rfl) rfl ?_
                            show s_Ek (s_rows 3 L xs) 1298 s_e224.1 0 [(0, .int a)] [] (s_M0.set 151 (11, ([Value.int 0, Value.ref 152, Value.int 0, Value.int 0, Value.int 0, Value.int 0, Value.int 0, Value.ref 153, Value.ref 154, Value.ref 155, Value.ref 156, Value.ref 157, Value.ref 158, Value.ref 159, Value.int 0, Value.ref 160, Value.ref 161, Value.ref 162, Value.int 0, Value.int 99, Value.ref 163, Value.ref 164, Value.ref 165, Value.int 0, Value.int 0, Value.ref 166, Value.ref 167, Value.ref 168, Value.ref 169, Value.ref 170, Value.int 0, Value.int (-1), Value.ref 171, Value.ref 172, Value.ref 173, Value.int 0, Value.int 0, Value.ref 174, Value.ref 175, Value.ref 176, Value.ref 177, Value.ref 178, Value.int 0, Value.ref 179, Value.int 0, Value.ref 180, Value.ref 181, Value.ref 182, Value.ref 183, Value.ref 184] : List Value))) _
                            refine s_ek_bk 17 (P := 22) (ls' := [(0, .int a)]) (st' := [.int ((((a / 100) * 25) + (((a / 10) - (a / 10) / 10 * 10) * 5)) + (a - a / 10 * 10))]) (M' := (s_M0.set 151 (11, ([Value.int 0, Value.ref 152, Value.int 0, Value.int 0, Value.int 0, Value.int 0, Value.int 0, Value.ref 153, Value.ref 154, Value.ref 155, Value.ref 156, Value.ref 157, Value.ref 158, Value.ref 159, Value.int 0, Value.ref 160, Value.ref 161, Value.ref 162, Value.int 0, Value.int 99, Value.ref 163, Value.ref 164, Value.ref 165, Value.int 0, Value.int 0, Value.ref 166, Value.ref 167, Value.ref 168, Value.ref 169, Value.ref 170, Value.int 0, Value.int (-1), Value.ref 171, Value.ref 172, Value.ref 173, Value.int 0, Value.int 0, Value.ref 174, Value.ref 175, Value.ref 176, Value.ref 177, Value.ref 178, Value.int 0, Value.ref 179, Value.int 0, Value.ref 180, Value.ref 181, Value.ref 182, Value.ref 183, Value.ref 184] : List Value)))) rfl ?_
                            refine s_ek_ret (o := some (.int ((((a / 100) * 25) + (((a / 10) - (a / 10) / 10 * 10) * 5)) + (a - a / 10 * 10)))) (fun _ => rfl) ?_
                            show s_Ek (s_rows 3 L xs) 1299 s_e235.1 26 [(0, .ref 151), (1, .int a), (2, .int b)] [.int ((((a / 100) * 25) + (((a / 10) - (a / 10) / 10 * 10) * 5)) + (a - a / 10 * 10))] (s_M0.set 151 (11, ([Value.int 0, Value.ref 152, Value.int 0, Value.int 0, Value.int 0, Value.int 0, Value.int 0, Value.ref 153, Value.ref 154, Value.ref 155, Value.ref 156, Value.ref 157, Value.ref 158, Value.ref 159, Value.int 0, Value.ref 160, Value.ref 161, Value.ref 162, Value.int 0, Value.int 99, Value.ref 163, Value.ref 164, Value.ref 165, Value.int 0, Value.int 0, Value.ref 166, Value.ref 167, Value.ref 168, Value.ref 169, Value.ref 170, Value.int 0, Value.int (-1), Value.ref 171, Value.ref 172, Value.ref 173, Value.int 0, Value.int 0, Value.ref 174, Value.ref 175, Value.ref 176, Value.ref 177, Value.ref 178, Value.int 0, Value.ref 179, Value.int 0, Value.ref 180, Value.ref 181, Value.ref 182, Value.ref 183, Value.ref 184] : List Value))) _
                            refine s_ek_bk 5 (P := 33) (ls' := [(3, .int ((((a / 100) * 25) + (((a / 10) - (a / 10) / 10 * 10) * 5)) + (a - a / 10 * 10))), (0, .ref 151), (1, .int a), (2, .int b)]) (st' := [.int 0, .int ((((a / 100) * 25) + (((a / 10) - (a / 10) / 10 * 10) * 5)) + (a - a / 10 * 10)), .ref 151]) (M' := (s_M0.set 151 (11, ([Value.int 0, Value.ref 152, Value.int 0, Value.int 0, Value.int 0, Value.int 0, Value.int 0, Value.ref 153, Value.ref 154, Value.ref 155, Value.ref 156, Value.ref 157, Value.ref 158, Value.ref 159, Value.int 0, Value.ref 160, Value.ref 161, Value.ref 162, Value.int 0, Value.int 99, Value.ref 163, Value.ref 164, Value.ref 165, Value.int 0, Value.int 0, Value.ref 166, Value.ref 167, Value.ref 168, Value.ref 169, Value.ref 170, Value.int 0, Value.int (-1), Value.ref 171, Value.ref 172, Value.ref 173, Value.int 0, Value.int 0, Value.ref 174, Value.ref 175, Value.ref 176, Value.ref 177, Value.ref 178, Value.int 0, Value.ref 179, Value.int 0, Value.ref 180, Value.ref 181, Value.ref 182, Value.ref 183, Value.ref 184] : List Value)))) rfl ?_
                            refine s_ek_call (ν := s_e232.1) (P := 36) (as := [.ref 151, .int ((((a / 100) * 25) + (((a / 10) - (a / 10) / 10 * 10) * 5)) + (a - a / 10 * 10)), .int 0]) (r := []) (fun _ => rfl) rfl ?_
                            show s_Ek (s_rows 3 L xs) 1298 s_e232.1 0 [(0, .ref 151), (1, .int ((((a / 100) * 25) + (((a / 10) - (a / 10) / 10 * 10) * 5)) + (a - a / 10 * 10))), (2, .int 0)] [] (s_M0.set 151 (11, ([Value.int 0, Value.ref 152, Value.int 0, Value.int 0, Value.int 0, Value.int 0, Value.int 0, Value.ref 153, Value.ref 154, Value.ref 155, Value.ref 156, Value.ref 157, Value.ref 158, Value.ref 159, Value.int 0, Value.ref 160, Value.ref 161, Value.ref 162, Value.int 0, Value.int 99, Value.ref 163, Value.ref 164, Value.ref 165, Value.int 0, Value.int 0, Value.ref 166, Value.ref 167, Value.ref 168, Value.ref 169, Value.ref 170, Value.int 0, Value.int (-1), Value.ref 171, Value.ref 172, Value.ref 173, Value.int 0, Value.int 0, Value.ref 174, Value.ref 175, Value.ref 176, Value.ref 177, Value.ref 178, Value.int 0, Value.ref 179, Value.int 0, Value.ref 180, Value.ref 181, Value.ref 182, Value.ref 183, Value.ref 184] : List Value))) _
                            refine s_ek_bk 9 (P := 64) (ls' := [(4, .int 0), (3, .int (-1)), (0, .ref 151), (1, .int ((((a / 100) * 25) + (((a / 10) - (a / 10) / 10 * 10) * 5)) + (a - a / 10 * 10))), (2, .int 0)]) (st' := [.int (-1)]) (M' := (s_M0.set 151 (11, ([Value.int 0, Value.ref 152, Value.int 0, Value.int 0, Value.int 0, Value.int 0, Value.int 0, Value.ref 153, Value.ref 154, Value.ref 155, Value.ref 156, Value.ref 157, Value.ref 158, Value.ref 159, Value.int 0, Value.ref 160, Value.ref 161, Value.ref 162, Value.int 0, Value.int 99, Value.ref 163, Value.ref 164, Value.ref 165, Value.int 0, Value.int 0, Value.ref 166, Value.ref 167, Value.ref 168, Value.ref 169, Value.ref 170, Value.int 0, Value.int (-1), Value.ref 171, Value.ref 172, Value.ref 173, Value.int 0, Value.int 0, Value.ref 174, Value.ref 175, Value.ref 176, Value.ref 177, Value.ref 178, Value.int 0, Value.ref 179, Value.int 0, Value.ref 180, Value.ref 181, Value.ref 182, Value.ref 183, Value.ref 184] : List Value)))) rfl ?_
                            refine s_ek_ret (o := some (.int (-1))) (fun _ => rfl) ?_
                            show s_Ek (s_rows 3 L xs) 1299 s_e235.1 36 [(3, .int ((((a / 100) * 25) + (((a / 10) - (a / 10) / 10 * 10) * 5)) + (a - a / 10 * 10))), (0, .ref 151), (1, .int a), (2, .int b)] [.int (-1)] (s_M0.set 151 (11, ([Value.int 0, Value.ref 152, Value.int 0, Value.int 0, Value.int 0, Value.int 0, Value.int 0, Value.ref 153, Value.ref 154, Value.ref 155, Value.ref 156, Value.ref 157, Value.ref 158, Value.ref 159, Value.int 0, Value.ref 160, Value.ref 161, Value.ref 162, Value.int 0, Value.int 99, Value.ref 163, Value.ref 164, Value.ref 165, Value.int 0, Value.int 0, Value.ref 166, Value.ref 167, Value.ref 168, Value.ref 169, Value.ref 170, Value.int 0, Value.int (-1), Value.ref 171, Value.ref 172, Value.ref 173, Value.int 0, Value.int 0, Value.ref 174, Value.ref 175, Value.ref 176, Value.ref 177, Value.ref 178, Value.int 0, Value.ref 179, Value.int 0, Value.ref 180, Value.ref 181, Value.ref 182, Value.ref 183, Value.ref 184] : List Value))) _
                            refine s_ek_bk 4 (P := 45) (ls' := [(4, .int (-1)), (3, .int ((((a / 100) * 25) + (((a / 10) - (a / 10) / 10 * 10) * 5)) + (a - a / 10 * 10))), (0, .ref 151), (1, .int a), (2, .int b)]) (st' := [.int (-2)]) (M' := (s_M0.set 151 (11, ([Value.int 0, Value.ref 152, Value.int 0, Value.int 0, Value.int 0, Value.int 0, Value.int 0, Value.ref 153, Value.ref 154, Value.ref 155, Value.ref 156, Value.ref 157, Value.ref 158, Value.ref 159, Value.int 0, Value.ref 160, Value.ref 161, Value.ref 162, Value.int 0, Value.int 99, Value.ref 163, Value.ref 164, Value.ref 165, Value.int 0, Value.int 0, Value.ref 166, Value.ref 167, Value.ref 168, Value.ref 169, Value.ref 170, Value.int 0, Value.int (-1), Value.ref 171, Value.ref 172, Value.ref 173, Value.int 0, Value.int 0, Value.ref 174, Value.ref 175, Value.ref 176, Value.ref 177, Value.ref 178, Value.int 0, Value.ref 179, Value.int 0, Value.ref 180, Value.ref 181, Value.ref 182, Value.ref 183, Value.ref 184] : List Value)))) rfl ?_
                            refine s_ek_ret (o := some (.int (-2))) (fun _ => rfl) ?_
                            exact rfl
              · replace h7 : ¬ (b.toInt ≤ 2) := h7
                replace h7 : 2 < b.toInt := by omega
                refine s_ek_bk 1 (P := 19) (ls' := [(3, .int ((((a / 100) * 25) + (((a / 10) - (a / 10) / 10 * 10) * 5)) + (a - a / 10 * 10))), (0, .ref 0), (1, .int a), (2, .int b)]) (st' := [.int (-1)]) (M' := s_M0) rfl ?_
                refine s_ek_ret (o := some (.int (-1))) (fun _ => rfl) ?_
                refine ⟨(-1), rfl, ?_⟩
                show s_Ek (s_rows 3 L xs) 1299 s_e235.1 0 [(0, .ref 151), (1, .int a), (2, .int b)] [] s_M0 _
                refine s_ek_bk 1 (P := 1) (ls' := [(0, .ref 151), (1, .int a), (2, .int b)]) (st' := [.int a]) (M' := s_M0) rfl ?_
                refine s_ek_call (ν := s_e226.1) (P := 4) (as := [.int a]) (r := []) (fun _ => rfl) rfl ?_
                show s_Ek (s_rows 3 L xs) 1298 s_e226.1 0 [(0, .int a)] [] s_M0 _
                refine s_ek_bk 3 (P := 5) (ls' := [(0, .int a)]) (st' := [.int 444, .int 0, .int a]) (M' := s_M0) rfl ?_
                refine s_ek_call (ν := s_e181.1) (P := 8) (as := [.int a, .int 0, .int 444]) (r := []) (fun _ => rfl) rfl ?_
                show s_Ek (s_rows 3 L xs) 1297 s_e181.1 0 [(0, .int a), (1, .int 0), (2, .int 444)] [] s_M0 _
                refine s_ek_bk 2 (P := 2) (ls' := [(0, .int a), (1, .int 0), (2, .int 444)]) (st' := [.int 0, .int a]) (M' := s_M0) rfl ?_
                refine s_ek_if2 (T := 14) rfl rfl (fun h8 => ?_) (fun h8 => ?_)
                · replace h8 : a.toInt < 0 := h8
                  omega
                · replace h8 : ¬ (a.toInt < 0) := h8
                  replace h8 : 0 ≤ a.toInt := by omega
                  refine s_ek_bk 2 (P := 7) (ls' := [(0, .int a), (1, .int 0), (2, .int 444)]) (st' := [.int 444, .int a]) (M' := s_M0) rfl ?_
                  refine s_ek_if2 (T := 14) rfl rfl (fun h9 => ?_) (fun h9 => ?_)
                  · replace h9 : 444 < a.toInt := h9
                    omega
                  · replace h9 : ¬ (444 < a.toInt) := h9
                    replace h9 : a.toInt ≤ 444 := by omega
                    refine s_ek_bk 2 (P := 15) (ls' := [(0, .int a), (1, .int 0), (2, .int 444)]) (st' := [.int 1]) (M' := s_M0) rfl ?_
                    refine s_ek_ret (o := some (.int 1)) (fun _ => rfl) ?_
                    show s_Ek (s_rows 3 L xs) 1298 s_e226.1 8 [(0, .int a)] [.int 1] s_M0 _
                    refine s_ek_bk 7 (P := 19) (ls' := [(0, .int a)]) (st' := [.int 4, .int ((a / 10) - (a / 10) / 10 * 10)]) (M' := s_M0) rfl ?_
                    refine s_ek_if2 (T := 34) rfl rfl (fun h10 => ?_) (fun h10 => ?_)
                    · replace h10 : 4 < ((a / 10) - (a / 10) / 10 * 10).toInt := h10
                      omega
                    · replace h10 : ¬ (4 < ((a / 10) - (a / 10) / 10 * 10).toInt) := h10
                      replace h10 : ((a / 10) - (a / 10) / 10 * 10).toInt ≤ 4 := by omega
                      refine s_ek_bk 4 (P := 27) (ls' := [(0, .int a)]) (st' := [.int 4, .int (a - a / 10 * 10)]) (M' := s_M0) rfl ?_
                      refine s_ek_if2 (T := 34) rfl rfl (fun h11 => ?_) (fun h11 => ?_)
                      · replace h11 : 4 < (a - a / 10 * 10).toInt := h11
                        omega
                      · replace h11 : ¬ (4 < (a - a / 10 * 10).toInt) := h11
                        replace h11 : (a - a / 10 * 10).toInt ≤ 4 := by omega
                        refine s_ek_bk 2 (P := 35) (ls' := [(0, .int a)]) (st' := [.int 1]) (M' := s_M0) rfl ?_
                        refine s_ek_ret (o := some (.int 1)) (fun _ => rfl) ?_
                        show s_Ek (s_rows 3 L xs) 1299 s_e235.1 4 [(0, .ref 151), (1, .int a), (2, .int b)] [.int 1] s_M0 _
                        refine s_ek_bk 4 (P := 10) (ls' := [(0, .ref 151), (1, .int a), (2, .int b)]) (st' := [.int 2, .int 0, .int b]) (M' := s_M0) rfl ?_
                        refine s_ek_call (ν := s_e181.1) (P := 13) (as := [.int b, .int 0, .int 2]) (r := []) (fun _ => rfl) rfl ?_
                        show s_Ek (s_rows 3 L xs) 1298 s_e181.1 0 [(0, .int b), (1, .int 0), (2, .int 2)] [] s_M0 _
                        refine s_ek_bk 2 (P := 2) (ls' := [(0, .int b), (1, .int 0), (2, .int 2)]) (st' := [.int 0, .int b]) (M' := s_M0) rfl ?_
                        refine s_ek_if2 (T := 14) rfl rfl (fun h12 => ?_) (fun h12 => ?_)
                        · replace h12 : b.toInt < 0 := h12
                          omega
                        · replace h12 : ¬ (b.toInt < 0) := h12
                          replace h12 : 0 ≤ b.toInt := by omega
                          refine s_ek_bk 2 (P := 7) (ls' := [(0, .int b), (1, .int 0), (2, .int 2)]) (st' := [.int 2, .int b]) (M' := s_M0) rfl ?_
                          refine s_ek_if2 (T := 14) rfl rfl (fun h13 => ?_) (fun h13 => ?_)
                          · replace h13 : 2 < b.toInt := h13
                            refine s_ek_bk 1 (P := 15) (ls' := [(0, .int b), (1, .int 0), (2, .int 2)]) (st' := [.int 0]) (M' := s_M0) rfl ?_
                            refine s_ek_ret (o := some (.int 0)) (fun _ => rfl) ?_
                            show s_Ek (s_rows 3 L xs) 1299 s_e235.1 13 [(0, .ref 151), (1, .int a), (2, .int b)] [.int 0] s_M0 _
                            refine s_ek_bk 2 (P := 17) (ls' := [(0, .ref 151), (1, .int a), (2, .int b)]) (st' := [.int (-1)]) (M' := s_M0) rfl ?_
                            refine s_ek_ret (o := some (.int (-1))) (fun _ => rfl) ?_
                            exact rfl
                          · replace h13 : ¬ (2 < b.toInt) := h13
                            replace h13 : b.toInt ≤ 2 := by omega
                            omega
        · replace h4 : ¬ ((a - a / 10 * 10).toInt ≤ 4) := h4
          replace h4 : 4 < (a - a / 10 * 10).toInt := by omega
          refine s_ek_bk 1 (P := 31) (ls' := [(0, .int a)]) (st' := [.int (-1)]) (M' := s_M0) rfl ?_
          refine s_ek_ret (o := some (.int (-1))) (fun _ => rfl) ?_
          show s_Ek (s_rows 3 L xs) 1299 s_e144.1 4 [(0, .ref 0), (1, .int a), (2, .int b)] [.int (-1)] s_M0 _
          refine s_ek_bk 4 (P := 19) (ls' := [(3, .int (-1)), (0, .ref 0), (1, .int a), (2, .int b)]) (st' := [.int (-1)]) (M' := s_M0) rfl ?_
          refine s_ek_ret (o := some (.int (-1))) (fun _ => rfl) ?_
          refine ⟨(-1), rfl, ?_⟩
          show s_Ek (s_rows 3 L xs) 1299 s_e235.1 0 [(0, .ref 151), (1, .int a), (2, .int b)] [] s_M0 _
          refine s_ek_bk 1 (P := 1) (ls' := [(0, .ref 151), (1, .int a), (2, .int b)]) (st' := [.int a]) (M' := s_M0) rfl ?_
          refine s_ek_call (ν := s_e226.1) (P := 4) (as := [.int a]) (r := []) (fun _ => rfl) rfl ?_
          show s_Ek (s_rows 3 L xs) 1298 s_e226.1 0 [(0, .int a)] [] s_M0 _
          refine s_ek_bk 3 (P := 5) (ls' := [(0, .int a)]) (st' := [.int 444, .int 0, .int a]) (M' := s_M0) rfl ?_
          refine s_ek_call (ν := s_e181.1) (P := 8) (as := [.int a, .int 0, .int 444]) (r := []) (fun _ => rfl) rfl ?_
          show s_Ek (s_rows 3 L xs) 1297 s_e181.1 0 [(0, .int a), (1, .int 0), (2, .int 444)] [] s_M0 _
          refine s_ek_bk 2 (P := 2) (ls' := [(0, .int a), (1, .int 0), (2, .int 444)]) (st' := [.int 0, .int a]) (M' := s_M0) rfl ?_
          refine s_ek_if2 (T := 14) rfl rfl (fun h5 => ?_) (fun h5 => ?_)
          · replace h5 : a.toInt < 0 := h5
            omega
          · replace h5 : ¬ (a.toInt < 0) := h5
            replace h5 : 0 ≤ a.toInt := by omega
            refine s_ek_bk 2 (P := 7) (ls' := [(0, .int a), (1, .int 0), (2, .int 444)]) (st' := [.int 444, .int a]) (M' := s_M0) rfl ?_
            refine s_ek_if2 (T := 14) rfl rfl (fun h6 => ?_) (fun h6 => ?_)
            · replace h6 : 444 < a.toInt := h6
              omega
            · replace h6 : ¬ (444 < a.toInt) := h6
              replace h6 : a.toInt ≤ 444 := by omega
              refine s_ek_bk 2 (P := 15) (ls' := [(0, .int a), (1, .int 0), (2, .int 444)]) (st' := [.int 1]) (M' := s_M0) rfl ?_
              refine s_ek_ret (o := some (.int 1)) (fun _ => rfl) ?_
              show s_Ek (s_rows 3 L xs) 1298 s_e226.1 8 [(0, .int a)] [.int 1] s_M0 _
              refine s_ek_bk 7 (P := 19) (ls' := [(0, .int a)]) (st' := [.int 4, .int ((a / 10) - (a / 10) / 10 * 10)]) (M' := s_M0) rfl ?_
              refine s_ek_if2 (T := 34) rfl rfl (fun h7 => ?_) (fun h7 => ?_)
              · replace h7 : 4 < ((a / 10) - (a / 10) / 10 * 10).toInt := h7
                omega
              · replace h7 : ¬ (4 < ((a / 10) - (a / 10) / 10 * 10).toInt) := h7
                replace h7 : ((a / 10) - (a / 10) / 10 * 10).toInt ≤ 4 := by omega
                refine s_ek_bk 4 (P := 27) (ls' := [(0, .int a)]) (st' := [.int 4, .int (a - a / 10 * 10)]) (M' := s_M0) rfl ?_
                refine s_ek_if2 (T := 34) rfl rfl (fun h8 => ?_) (fun h8 => ?_)
                · replace h8 : 4 < (a - a / 10 * 10).toInt := h8
                  refine s_ek_bk 1 (P := 35) (ls' := [(0, .int a)]) (st' := [.int 0]) (M' := s_M0) rfl ?_
                  refine s_ek_ret (o := some (.int 0)) (fun _ => rfl) ?_
                  show s_Ek (s_rows 3 L xs) 1299 s_e235.1 4 [(0, .ref 151), (1, .int a), (2, .int b)] [.int 0] s_M0 _
                  refine s_ek_bk 2 (P := 17) (ls' := [(0, .ref 151), (1, .int a), (2, .int b)]) (st' := [.int (-1)]) (M' := s_M0) rfl ?_
                  refine s_ek_ret (o := some (.int (-1))) (fun _ => rfl) ?_
                  exact rfl
                · replace h8 : ¬ (4 < (a - a / 10 * 10).toInt) := h8
                  replace h8 : (a - a / 10 * 10).toInt ≤ 4 := by omega
                  omega
