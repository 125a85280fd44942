/-! the calls on fresh objects: keep put element taken count -/
set_option maxRecDepth 1000000 in
theorem s_cle_0 : s_out (s_x s_prog s_fty s_ft (s_rows 2 0 (fun _ => 0)) 80 1298 s_e48.1 0 (lv_args 0 [.ref 8]) [] s_M0) (none) s_M0 s_M0 = true := by decide +kernel
set_option maxRecDepth 1000000 in
theorem s_cle_1 : s_out (s_x s_prog s_fty s_ft (s_rows 2 0 (fun _ => 0)) 71 1297 s_e219.1 0 (lv_args 0 [.ref 151, .int 0, .int (-1)]) [] s_M0) (none) s_M0 (s_M0.set 151 (11, ([Value.int 0, Value.ref 152, Value.int 0, Value.int 0, Value.int 0, Value.int 0, Value.int 0, Value.ref 153, Value.ref 154, Value.ref 155, Value.ref 156, Value.ref 157, Value.ref 158, Value.ref 159, Value.int 0, Value.ref 160, Value.ref 161, Value.ref 162, Value.int 0, Value.int 99, Value.ref 163, Value.ref 164, Value.ref 165, Value.int 0, Value.int 0, Value.ref 166, Value.ref 167, Value.ref 168, Value.ref 169, Value.ref 170, Value.int 0, Value.int (-1), Value.ref 171, Value.ref 172, Value.ref 173, Value.int 0, Value.int 0, Value.ref 174, Value.ref 175, Value.ref 176, Value.ref 177, Value.ref 178, Value.int 0, Value.ref 179, Value.int 0, Value.ref 180, Value.ref 181, Value.ref 182, Value.ref 183, Value.ref 184] : List Value))) = true := by decide +kernel
set_option maxHeartbeats 20000000 in
set_option maxRecDepth 100000 in
theorem s_op_keep (L : Nat) (xs : Nat → Int32) (a : Int32) (b : Int32) : s_Ek (s_rows 3 L xs) 1299 s_e162.1 0 (lv_args 0 [.ref 0, .int a, .int b]) [] s_M0 (fun v M1 => ∃ r : Int32, v = some (.int r) ∧ s_Ek (s_rows 3 L xs) 1299 s_e282.1 0 (lv_args 0 [.ref 151, .int a, .int b]) [] M1 (fun w _ => w = some (.int r))) := by
  show s_Ek (s_rows 3 L xs) 1299 s_e162.1 0 [(0, .ref 0), (1, .int a), (2, .int b)] [] s_M0 _
  refine s_ek_bk 1 (P := 1) (ls' := [(0, .ref 0), (1, .int a), (2, .int b)]) (st' := [.int a]) (M' := s_M0) rfl ?_
  refine s_ek_call (ν := s_e175.1) (P := 4) (as := [.int a]) (r := []) (fun _ => rfl) rfl ?_
  show s_Ek (s_rows 3 L xs) 1298 s_e175.1 0 [(0, .int a)] [] s_M0 _
  refine s_ek_bk 1 (P := 1) (ls' := [(0, .int a)]) (st' := [.int a]) (M' := s_M0) rfl ?_
  refine s_ek_if1 (T := 14) rfl rfl (fun h1 => ?_) (fun h1 => ?_)
  · replace h1 : a.toInt < 0 := h1
    refine s_ek_bk 1 (P := 15) (ls' := [(0, .int a)]) (st' := [.int 0]) (M' := s_M0) rfl ?_
    refine s_ek_ret (o := some (.int 0)) (fun _ => rfl) ?_
    show s_Ek (s_rows 3 L xs) 1299 s_e162.1 4 [(0, .ref 0), (1, .int a), (2, .int b)] [.int 0] s_M0 _
    refine s_ek_bk 2 (P := 24) (ls' := [(0, .ref 0), (1, .int a), (2, .int b)]) (st' := [.int (-1)]) (M' := s_M0) rfl ?_
    refine s_ek_ret (o := some (.int (-1))) (fun _ => rfl) ?_
    refine ⟨(-1), rfl, ?_⟩
    show s_Ek (s_rows 3 L xs) 1299 s_e282.1 0 [(0, .ref 151), (1, .int a), (2, .int b)] [] s_M0 _
    refine s_ek_bk 1 (P := 1) (ls' := [(0, .ref 151), (1, .int a), (2, .int b)]) (st' := [.int a]) (M' := s_M0) rfl ?_
    refine s_ek_call (ν := s_e281.1) (P := 4) (as := [.int a]) (r := []) (fun _ => rfl) rfl ?_
    show s_Ek (s_rows 3 L xs) 1298 s_e281.1 0 [(0, .int a)] [] s_M0 _
    refine s_ek_bk 3 (P := 3) (ls' := [(0, .int a)]) (st' := [.int 5, .int 0, .int a]) (M' := s_M0) rfl ?_
    refine s_ek_call (ν := s_e181.1) (P := 6) (as := [.int a, .int 0, .int 5]) (r := []) (fun _ => rfl) rfl ?_
    show s_Ek (s_rows 3 L xs) 1297 s_e181.1 0 [(0, .int a), (1, .int 0), (2, .int 5)] [] s_M0 _
    refine s_ek_bk 2 (P := 2) (ls' := [(0, .int a), (1, .int 0), (2, .int 5)]) (st' := [.int 0, .int a]) (M' := s_M0) rfl ?_
    refine s_ek_if2 (T := 14) rfl rfl (fun h2 => ?_) (fun h2 => ?_)
    · replace h2 : a.toInt < 0 := h2
      refine s_ek_bk 1 (P := 15) (ls' := [(0, .int a), (1, .int 0), (2, .int 5)]) (st' := [.int 0]) (M' := s_M0) rfl ?_
      refine s_ek_ret (o := some (.int 0)) (fun _ => rfl) ?_
      show s_Ek (s_rows 3 L xs) 1298 s_e281.1 6 [(0, .int a)] [.int 0] s_M0 _
      refine s_ek_ret (o := some (.int 0)) (fun _ => rfl) ?_
      show s_Ek (s_rows 3 L xs) 1299 s_e282.1 4 [(0, .ref 151), (1, .int a), (2, .int b)] [.int 0] s_M0 _
      refine s_ek_bk 2 (P := 21) (ls' := [(0, .ref 151), (1, .int a), (2, .int b)]) (st' := [.int (-1)]) (M' := s_M0) rfl ?_
      refine s_ek_ret (o := some (.int (-1))) (fun _ => rfl) ?_
      exact rfl
    · replace h2 : ¬ (a.toInt < 0) := h2
      replace h2 : 0 ≤ a.toInt := by omega
      omega
  · replace h1 : ¬ (a.toInt < 0) := h1
    replace h1 : 0 ≤ a.toInt := by omega
    refine s_ek_bk 2 (P := 7) (ls' := [(0, .int a)]) (st' := [.int 6, .int a]) (M' := s_M0) rfl ?_
    refine s_ek_if2 (T := 14) rfl rfl (fun h2 => ?_) (fun h2 => ?_)
    · replace h2 : 6 ≤ a.toInt := h2
      refine s_ek_bk 1 (P := 15) (ls' := [(0, .int a)]) (st' := [.int 0]) (M' := s_M0) rfl ?_
      refine s_ek_ret (o := some (.int 0)) (fun _ => rfl) ?_
      show s_Ek (s_rows 3 L xs) 1299 s_e162.1 4 [(0, .ref 0), (1, .int a), (2, .int b)] [.int 0] s_M0 _
      refine s_ek_bk 2 (P := 24) (ls' := [(0, .ref 0), (1, .int a), (2, .int b)]) (st' := [.int (-1)]) (M' := s_M0) rfl ?_
      refine s_ek_ret (o := some (.int (-1))) (fun _ => rfl) ?_
      refine ⟨(-1), rfl, ?_⟩
      show s_Ek (s_rows 3 L xs) 1299 s_e282.1 0 [(0, .ref 151), (1, .int a), (2, .int b)] [] s_M0 _
      refine s_ek_bk 1 (P := 1) (ls' := [(0, .ref 151), (1, .int a), (2, .int b)]) (st' := [.int a]) (M' := s_M0) rfl ?_
      refine s_ek_call (ν := s_e281.1) (P := 4) (as := [.int a]) (r := []) (fun _ => rfl) rfl ?_
      show s_Ek (s_rows 3 L xs) 1298 s_e281.1 0 [(0, .int a)] [] s_M0 _
      refine s_ek_bk 3 (P := 3) (ls' := [(0, .int a)]) (st' := [.int 5, .int 0, .int a]) (M' := s_M0) rfl ?_
      refine s_ek_call (ν := s_e181.1) (P := 6) (as := [.int a, .int 0, .int 5]) (r := []) (fun _ => rfl) rfl ?_
      show s_Ek (s_rows 3 L xs) 1297 s_e181.1 0 [(0, .int a), (1, .int 0), (2, .int 5)] [] s_M0 _
      refine s_ek_bk 2 (P := 2) (ls' := [(0, .int a), (1, .int 0), (2, .int 5)]) (st' := [.int 0, .int a]) (M' := s_M0) rfl ?_
      refine s_ek_if2 (T := 14) rfl rfl (fun h3 => ?_) (fun h3 => ?_)
      · replace h3 : a.toInt < 0 := h3
        omega
      · replace h3 : ¬ (a.toInt < 0) := h3
        replace h3 : 0 ≤ a.toInt := by omega
        refine s_ek_bk 2 (P := 7) (ls' := [(0, .int a), (1, .int 0), (2, .int 5)]) (st' := [.int 5, .int a]) (M' := s_M0) rfl ?_
        refine s_ek_if2 (T := 14) rfl rfl (fun h4 => ?_) (fun h4 => ?_)
        · replace h4 : 5 < a.toInt := h4
          refine s_ek_bk 1 (P := 15) (ls' := [(0, .int a), (1, .int 0), (2, .int 5)]) (st' := [.int 0]) (M' := s_M0) rfl ?_
          refine s_ek_ret (o := some (.int 0)) (fun _ => rfl) ?_
          show s_Ek (s_rows 3 L xs) 1298 s_e281.1 6 [(0, .int a)] [.int 0] s_M0 _
          refine s_ek_ret (o := some (.int 0)) (fun _ => rfl) ?_
          show s_Ek (s_rows 3 L xs) 1299 s_e282.1 4 [(0, .ref 151), (1, .int a), (2, .int b)] [.int 0] s_M0 _
          refine s_ek_bk 2 (P := 21) (ls' := [(0, .ref 151), (1, .int a), (2, .int b)]) (st' := [.int (-1)]) (M' := s_M0) rfl ?_
          refine s_ek_ret (o := some (.int (-1))) (fun _ => rfl) ?_
          exact rfl
        · replace h4 : ¬ (5 < a.toInt) := h4
          replace h4 : a.toInt ≤ 5 := by omega
          omega
    · replace h2 : ¬ (6 ≤ a.toInt) := h2
      replace h2 : a.toInt < 6 := by omega
      refine s_ek_bk 2 (P := 15) (ls' := [(0, .int a)]) (st' := [.int 1]) (M' := s_M0) rfl ?_
      refine s_ek_ret (o := some (.int 1)) (fun _ => rfl) ?_
      show s_Ek (s_rows 3 L xs) 1299 s_e162.1 4 [(0, .ref 0), (1, .int a), (2, .int b)] [.int 1] s_M0 _
      refine s_ek_bk 3 (P := 9) (ls' := [(0, .ref 0), (1, .int a), (2, .int b)]) (st' := [.int (-1), .int b]) (M' := s_M0) rfl ?_
      refine s_ek_if2 (T := 25) rfl rfl (fun h3 => ?_) (fun h3 => ?_)
      · replace h3 : b.toInt = (-1) := h3
        refine s_ek_bk 2 (P := 27) (ls' := [(0, .ref 0), (1, .int a), (2, .int b)]) (st' := [.int (-1), .int b]) (M' := s_M0) rfl ?_
        refine s_ek_if2 (T := 41) rfl rfl (fun h4 => ?_) (fun h4 => ?_)
        · replace h4 : ¬ b.toInt = (-1) := h4
          omega
        · replace h4 : ¬ (¬ b.toInt = (-1)) := h4
          replace h4 : b.toInt = (-1) := by omega
          refine s_ek_bk 2 (P := 32) (ls' := [(0, .ref 0), (1, .int a), (2, .int b)]) (st' := [.int a, .ref 0]) (M' := s_M0) rfl ?_
          refine s_ek_call (ν := s_e176.1) (P := 35) (as := [.ref 0, .int a]) (r := []) (fun _ => rfl) rfl ?_
          show s_Ek (s_rows 3 L xs) 1298 s_e176.1 0 [(0, .ref 0), (1, .int a)] [] s_M0 _
          refine s_ek_bk 1 (P := 1) (ls' := [(0, .ref 0), (1, .int a)]) (st' := [.int a]) (M' := s_M0) rfl ?_
          refine s_ek_if1 (T := 22) rfl rfl (fun h5 => ?_) (fun h5 => ?_)
          · replace h5 : a.toInt < 0 := h5
            omega
          · replace h5 : ¬ (a.toInt < 0) := h5
            replace h5 : 0 ≤ a.toInt := by omega
            refine s_ek_bk 4 (P := 10) (ls' := [(0, .ref 0), (1, .int a)]) (st' := [.int 6, .int a]) (M' := s_M0) rfl ?_
            refine s_ek_if2 (T := 22) rfl rfl (fun h6 => ?_) (fun h6 => ?_)
            · replace h6 : 6 ≤ a.toInt := h6
              omega
            · replace h6 : ¬ (6 ≤ a.toInt) := h6
              replace h6 : a.toInt < 6 := by omega
              refine s_ek_bk 3 (P := 18) (ls' := [(0, .ref 0), (1, .int a)]) (st' := [.int a, .ref 135]) (M' := s_M0) rfl ?_
              rcases s_rg_0_5 (a := a) (by omega) (by omega) with rfl | rfl | rfl | rfl | rfl | rfl
              · refine s_ek_bk 6 (P := 33) (ls' := [(0, .ref 0), (1, .int 0)]) (st' := [.ref 139]) (M' := s_M0) rfl ?_
                refine s_ek_ret (o := some (.ref 139)) (fun _ => rfl) ?_
                show s_Ek (s_rows 3 L xs) 1299 s_e162.1 35 [(0, .ref 0), (1, .int 0), (2, .int b)] [.ref 139] s_M0 _
                refine s_ek_call (ν := s_e86.1) (P := 38) (as := [.ref 139]) (r := []) (fun _ => rfl) rfl ?_
                show s_Ek (s_rows 3 L xs) 1298 s_e86.1 0 [(0, .ref 139)] [] s_M0 _
                refine s_ek_bk 3 (P := 5) (ls' := [(0, .ref 139)]) (st' := []) (M' := s_M0) rfl ?_
                refine s_ek_ret (o := none) (fun _ => rfl) ?_
                show s_Ek (s_rows 3 L xs) 1299 s_e162.1 38 [(0, .ref 0), (1, .int 0), (2, .int b)] [] s_M0 _
                refine s_ek_bk 2 (P := 51) (ls' := [(0, .ref 0), (1, .int 0), (2, .int b)]) (st' := [.int 1]) (M' := s_M0) rfl ?_
                refine s_ek_ret (o := some (.int 1)) (fun _ => rfl) ?_
                refine ⟨1, rfl, ?_⟩
                show s_Ek (s_rows 3 L xs) 1299 s_e282.1 0 [(0, .ref 151), (1, .int 0), (2, .int b)] [] s_M0 _
                refine s_ek_bk 1 (P := 1) (ls' := [(0, .ref 151), (1, .int 0), (2, .int b)]) (st' := [.int 0]) (M' := s_M0) rfl ?_
                refine s_ek_call (ν := s_e281.1) (P := 4) (as := [.int 0]) (r := []) (fun _ => rfl) rfl ?_
                show s_Ek (s_rows 3 L xs) 1298 s_e281.1 0 [(0, .int 0)] [] s_M0 _
                refine s_ek_bk 3 (P := 3) (ls' := [(0, .int 0)]) (st' := [.int 5, .int 0, .int 0]) (M' := s_M0) rfl ?_
                refine s_ek_call (ν := s_e181.1) (P := 6) (as := [.int 0, .int 0, .int 5]) (r := []) (fun _ => rfl) rfl ?_
                show s_Ek (s_rows 3 L xs) 1297 s_e181.1 0 [(0, .int 0), (1, .int 0), (2, .int 5)] [] s_M0 _
                refine s_ek_bk 8 (P := 15) (ls' := [(0, .int 0), (1, .int 0), (2, .int 5)]) (st' := [.int 1]) (M' := s_M0) rfl ?_
                refine s_ek_ret (o := some (.int 1)) (fun _ => rfl) ?_
                show s_Ek (s_rows 3 L xs) 1298 s_e281.1 6 [(0, .int 0)] [.int 1] s_M0 _
                refine s_ek_ret (o := some (.int 1)) (fun _ => rfl) ?_
                show s_Ek (s_rows 3 L xs) 1299 s_e282.1 4 [(0, .ref 151), (1, .int 0), (2, .int b)] [.int 1] s_M0 _
                refine s_ek_bk 3 (P := 9) (ls' := [(0, .ref 151), (1, .int 0), (2, .int b)]) (st' := [.int (-1), .int b]) (M' := s_M0) rfl ?_
                refine s_ek_if2 (T := 22) rfl rfl (fun h7 => ?_) (fun h7 => ?_)
                · replace h7 : b.toInt = (-1) := h7
                  refine s_ek_bk 5 (P := 29) (ls' := [(0, .ref 151), (1, .int 0), (2, .int b)]) (st' := []) (M' := (s_M0.set 181 (13, ((List.replicate 6 (Value.int (-1))).set 0 (Value.int b))))) rfl ?_
                  refine s_ek_bk 1 (P := 30) (ls' := [(0, .ref 151), (1, .int 0), (2, .int b)]) (st' := [.int 1]) (M' := (s_M0.set 181 (13, ((List.replicate 6 (Value.int (-1))).set 0 (Value.int b))))) rfl ?_
                  refine s_ek_ret (o := some (.int 1)) (fun _ => rfl) ?_
                  exact rfl
                · replace h7 : ¬ (b.toInt = (-1)) := h7
                  replace h7 : ¬ b.toInt = (-1) := by omega
                  omega
              · refine s_ek_bk 6 (P := 33) (ls' := [(0, .ref 0), (1, .int 1)]) (st' := [.ref 141]) (M' := s_M0) rfl ?_
                refine s_ek_ret (o := some (.ref 141)) (fun _ => rfl) ?_
                show s_Ek (s_rows 3 L xs) 1299 s_e162.1 35 [(0, .ref 0), (1, .int 1), (2, .int b)] [.ref 141] s_M0 _
                refine s_ek_call (ν := s_e86.1) (P := 38) (as := [.ref 141]) (r := []) (fun _ => rfl) rfl ?_
                show s_Ek (s_rows 3 L xs) 1298 s_e86.1 0 [(0, .ref 141)] [] s_M0 _
                refine s_ek_bk 3 (P := 5) (ls' := [(0, .ref 141)]) (st' := []) (M' := s_M0) rfl ?_
                refine s_ek_ret (o := none) (fun _ => rfl) ?_
                show s_Ek (s_rows 3 L xs) 1299 s_e162.1 38 [(0, .ref 0), (1, .int 1), (2, .int b)] [] s_M0 _
                refine s_ek_bk 2 (P := 51) (ls' := [(0, .ref 0), (1, .int 1), (2, .int b)]) (st' := [.int 1]) (M' := s_M0) rfl ?_
                refine s_ek_ret (o := some (.int 1)) (fun _ => rfl) ?_
                refine ⟨1, rfl, ?_⟩
                show s_Ek (s_rows 3 L xs) 1299 s_e282.1 0 [(0, .ref 151), (1, .int 1), (2, .int b)] [] s_M0 _
                refine s_ek_bk 1 (P := 1) (ls' := [(0, .ref 151), (1, .int 1), (2, .int b)]) (st' := [.int 1]) (M' := s_M0) rfl ?_
                refine s_ek_call (ν := s_e281.1) (P := 4) (as := [.int 1]) (r := []) (fun _ => rfl) rfl ?_
                show s_Ek (s_rows 3 L xs) 1298 s_e281.1 0 [(0, .int 1)] [] s_M0 _
                refine s_ek_bk 3 (P := 3) (ls' := [(0, .int 1)]) (st' := [.int 5, .int 0, .int 1]) (M' := s_M0) rfl ?_
                refine s_ek_call (ν := s_e181.1) (P := 6) (as := [.int 1, .int 0, .int 5]) (r := []) (fun _ => rfl) rfl ?_
                show s_Ek (s_rows 3 L xs) 1297 s_e181.1 0 [(0, .int 1), (1, .int 0), (2, .int 5)] [] s_M0 _
                refine s_ek_bk 8 (P := 15) (ls' := [(0, .int 1), (1, .int 0), (2, .int 5)]) (st' := [.int 1]) (M' := s_M0) rfl ?_
                refine s_ek_ret (o := some (.int 1)) (fun _ => rfl) ?_
                show s_Ek (s_rows 3 L xs) 1298 s_e281.1 6 [(0, .int 1)] [.int 1] s_M0 _
                refine s_ek_ret (o := some (.int 1)) (fun _ => rfl) ?_
                show s_Ek (s_rows 3 L xs) 1299 s_e282.1 4 [(0, .ref 151), (1, .int 1), (2, .int b)] [.int 1] s_M0 _
                refine s_ek_bk 3 (P := 9) (ls' := [(0, .ref 151), (1, .int 1), (2, .int b)]) (st' := [.int (-1), .int b]) (M' := s_M0) rfl ?_
                refine s_ek_if2 (T := 22) rfl rfl (fun h7 => ?_) (fun h7 => ?_)
                · replace h7 : b.toInt = (-1) := h7
                  refine s_ek_bk 5 (P := 29) (ls' := [(0, .ref 151), (1, .int 1), (2, .int b)]) (st' := []) (M' := (s_M0.set 181 (13, ((List.replicate 6 (Value.int (-1))).set 1 (Value.int b))))) rfl ?_
                  refine s_ek_bk 1 (P := 30) (ls' := [(0, .ref 151), (1, .int 1), (2, .int b)]) (st' := [.int 1]) (M' := (s_M0.set 181 (13, ((List.replicate 6 (Value.int (-1))).set 1 (Value.int b))))) rfl ?_
                  refine s_ek_ret (o := some (.int 1)) (fun _ => rfl) ?_
                  exact rfl
                · replace h7 : ¬ (b.toInt = (-1)) := h7
                  replace h7 : ¬ b.toInt = (-1) := by omega
                  omega
              · refine s_ek_bk 6 (P := 33) (ls' := [(0, .ref 0), (1, .int 2)]) (st' := [.ref 143]) (M' := s_M0) rfl ?_
                refine s_ek_ret (o := some (.ref 143)) (fun _ => rfl) ?_
                show s_Ek (s_rows 3 L xs) 1299 s_e162.1 35 [(0, .ref 0), (1, .int 2), (2, .int b)] [.ref 143] s_M0 _
                refine s_ek_call (ν := s_e86.1) (P := 38) (as := [.ref 143]) (r := []) (fun _ => rfl) rfl ?_
                show s_Ek (s_rows 3 L xs) 1298 s_e86.1 0 [(0, .ref 143)] [] s_M0 _
                refine s_ek_bk 3 (P := 5) (ls' := [(0, .ref 143)]) (st' := []) (M' := s_M0) rfl ?_
                refine s_ek_ret (o := none) (fun _ => rfl) ?_
                show s_Ek (s_rows 3 L xs) 1299 s_e162.1 38 [(0, .ref 0), (1, .int 2), (2, .int b)] [] s_M0 _
                refine s_ek_bk 2 (P := 51) (ls' := [(0, .ref 0), (1, .int 2), (2, .int b)]) (st' := [.int 1]) (M' := s_M0) rfl ?_
                refine s_ek_ret (o := some (.int 1)) (fun _ => rfl) ?_
                refine ⟨1, rfl, ?_⟩
                show s_Ek (s_rows 3 L xs) 1299 s_e282.1 0 [(0, .ref 151), (1, .int 2), (2, .int b)] [] s_M0 _
                refine s_ek_bk 1 (P := 1) (ls' := [(0, .ref 151), (1, .int 2), (2, .int b)]) (st' := [.int 2]) (M' := s_M0) rfl ?_
                refine s_ek_call (ν := s_e281.1) (P := 4) (as := [.int 2]) (r := []) (fun _ => rfl) rfl ?_
                show s_Ek (s_rows 3 L xs) 1298 s_e281.1 0 [(0, .int 2)] [] s_M0 _
                refine s_ek_bk 3 (P := 3) (ls' := [(0, .int 2)]) (st' := [.int 5, .int 0, .int 2]) (M' := s_M0) rfl ?_
                refine s_ek_call (ν := s_e181.1) (P := 6) (as := [.int 2, .int 0, .int 5]) (r := []) (fun _ => rfl) rfl ?_
                show s_Ek (s_rows 3 L xs) 1297 s_e181.1 0 [(0, .int 2), (1, .int 0), (2, .int 5)] [] s_M0 _
                refine s_ek_bk 8 (P := 15) (ls' := [(0, .int 2), (1, .int 0), (2, .int 5)]) (st' := [.int 1]) (M' := s_M0) rfl ?_
                refine s_ek_ret (o := some (.int 1)) (fun _ => rfl) ?_
                show s_Ek (s_rows 3 L xs) 1298 s_e281.1 6 [(0, .int 2)] [.int 1] s_M0 _
                refine s_ek_ret (o := some (.int 1)) (fun _ => rfl) ?_
                show s_Ek (s_rows 3 L xs) 1299 s_e282.1 4 [(0, .ref 151), (1, .int 2), (2, .int b)] [.int 1] s_M0 _
                refine s_ek_bk 3 (P := 9) (ls' := [(0, .ref 151), (1, .int 2), (2, .int b)]) (st' := [.int (-1), .int b]) (M' := s_M0) rfl ?_
                refine s_ek_if2 (T := 22) rfl rfl (fun h7 => ?_) (fun h7 => ?_)
                · replace h7 : b.toInt = (-1) := h7
                  refine s_ek_bk 5 (P := 29) (ls' := [(0, .ref 151), (1, .int 2), (2, .int b)]) (st' := []) (M' := (s_M0.set 181 (13, ((List.replicate 6 (Value.int (-1))).set 2 (Value.int b))))) rfl ?_
                  refine s_ek_bk 1 (P := 30) (ls' := [(0, .ref 151), (1, .int 2), (2, .int b)]) (st' := [.int 1]) (M' := (s_M0.set 181 (13, ((List.replicate 6 (Value.int (-1))).set 2 (Value.int b))))) rfl ?_
                  refine s_ek_ret (o := some (.int 1)) (fun _ => rfl) ?_
                  exact rfl
                · replace h7 : ¬ (b.toInt = (-1)) := h7
                  replace h7 : ¬ b.toInt = (-1) := by omega
                  omega
              · refine s_ek_bk 6 (P := 33) (ls' := [(0, .ref 0), (1, .int 3)]) (st' := [.ref 145]) (M' := s_M0) rfl ?_
                refine s_ek_ret (o := some (.ref 145)) (fun _ => rfl) ?_
                show s_Ek (s_rows 3 L xs) 1299 s_e162.1 35 [(0, .ref 0), (1, .int 3), (2, .int b)] [.ref 145] s_M0 _
                refine s_ek_call (ν := s_e86.1) (P := 38) (as := [.ref 145]) (r := []) (fun _ => rfl) rfl ?_
                show s_Ek (s_rows 3 L xs) 1298 s_e86.1 0 [(0, .ref 145)] [] s_M0 _
                refine s_ek_bk 3 (P := 5) (ls' := [(0, .ref 145)]) (st' := []) (M' := s_M0) rfl ?_
                refine s_ek_ret (o := none) (fun _ => rfl) ?_
                show s_Ek (s_rows 3 L xs) 1299 s_e162.1 38 [(0, .ref 0), (1, .int 3), (2, .int b)] [] s_M0 _
                refine s_ek_bk 2 (P := 51) (ls' := [(0, .ref 0), (1, .int 3), (2, .int b)]) (st' := [.int 1]) (M' := s_M0) rfl ?_
                refine s_ek_ret (o := some (.int 1)) (fun _ => rfl) ?_
                refine ⟨1, rfl, ?_⟩
                show s_Ek (s_rows 3 L xs) 1299 s_e282.1 0 [(0, .ref 151), (1, .int 3), (2, .int b)] [] s_M0 _
                refine s_ek_bk 1 (P := 1) (ls' := [(0, .ref 151), (1, .int 3), (2, .int b)]) (st' := [.int 3]) (M' := s_M0) rfl ?_
                refine s_ek_call (ν := s_e281.1) (P := 4) (as := [.int 3]) (r := []) (fun _ => rfl) rfl ?_
                show s_Ek (s_rows 3 L xs) 1298 s_e281.1 0 [(0, .int 3)] [] s_M0 _
                refine s_ek_bk 3 (P := 3) (ls' := [(0, .int 3)]) (st' := [.int 5, .int 0, .int 3]) (M' := s_M0) rfl ?_
                refine s_ek_call (ν := s_e181.1) (P := 6) (as := [.int 3, .int 0, .int 5]) (r := []) (fun _ => rfl) rfl ?_
                show s_Ek (s_rows 3 L xs) 1297 s_e181.1 0 [(0, .int 3), (1, .int 0), (2, .int 5)] [] s_M0 _
                refine s_ek_bk 8 (P := 15) (ls' := [(0, .int 3), (1, .int 0), (2, .int 5)]) (st' := [.int 1]) (M' := s_M0) rfl ?_
                refine s_ek_ret (o := some (.int 1)) (fun _ => rfl) ?_
                show s_Ek (s_rows 3 L xs) 1298 s_e281.1 6 [(0, .int 3)] [.int 1] s_M0 _
                refine s_ek_ret (o := some (.int 1)) (fun _ => rfl) ?_
                show s_Ek (s_rows 3 L xs) 1299 s_e282.1 4 [(0, .ref 151), (1, .int 3), (2, .int b)] [.int 1] s_M0 _
                refine s_ek_bk 3 (P := 9) (ls' := [(0, .ref 151), (1, .int 3), (2, .int b)]) (st' := [.int (-1), .int b]) (M' := s_M0) rfl ?_
                refine s_ek_if2 (T := 22) rfl rfl (fun h7 => ?_) (fun h7 => ?_)
                · replace h7 : b.toInt = (-1) := h7
                  refine s_ek_bk 5 (P := 29) (ls' := [(0, .ref 151), (1, .int 3), (2, .int b)]) (st' := []) (M' := (s_M0.set 181 (13, ((List.replicate 6 (Value.int (-1))).set 3 (Value.int b))))) rfl ?_
                  refine s_ek_bk 1 (P := 30) (ls' := [(0, .ref 151), (1, .int 3), (2, .int b)]) (st' := [.int 1]) (M' := (s_M0.set 181 (13, ((List.replicate 6 (Value.int (-1))).set 3 (Value.int b))))) rfl ?_
                  refine s_ek_ret (o := some (.int 1)) (fun _ => rfl) ?_
                  exact rfl
                · replace h7 : ¬ (b.toInt = (-1)) := h7
                  replace h7 : ¬ b.toInt = (-1) := by omega
                  omega
              · refine s_ek_bk 6 (P := 33) (ls' := [(0, .ref 0), (1, .int 4)]) (st' := [.ref 147]) (M' := s_M0) rfl ?_
                refine s_ek_ret (o := some (.ref 147)) (fun _ => rfl) ?_
                show s_Ek (s_rows 3 L xs) 1299 s_e162.1 35 [(0, .ref 0), (1, .int 4), (2, .int b)] [.ref 147] s_M0 _
                refine s_ek_call (ν := s_e86.1) (P := 38) (as := [.ref 147]) (r := []) (fun _ => rfl) rfl ?_
                show s_Ek (s_rows 3 L xs) 1298 s_e86.1 0 [(0, .ref 147)] [] s_M0 _
                refine s_ek_bk 3 (P := 5) (ls' := [(0, .ref 147)]) (st' := []) (M' := s_M0) rfl ?_
                refine s_ek_ret (o := none) (fun _ => rfl) ?_
                show s_Ek (s_rows 3 L xs) 1299 s_e162.1 38 [(0, .ref 0), (1, .int 4), (2, .int b)] [] s_M0 _
                refine s_ek_bk 2 (P := 51) (ls' := [(0, .ref 0), (1, .int 4), (2, .int b)]) (st' := [.int 1]) (M' := s_M0) rfl ?_
                refine s_ek_ret (o := some (.int 1)) (fun _ => rfl) ?_
                refine ⟨1, rfl, ?_⟩
                show s_Ek (s_rows 3 L xs) 1299 s_e282.1 0 [(0, .ref 151), (1, .int 4), (2, .int b)] [] s_M0 _
                refine s_ek_bk 1 (P := 1) (ls' := [(0, .ref 151), (1, .int 4), (2, .int b)]) (st' := [.int 4]) (M' := s_M0) rfl ?_
                refine s_ek_call (ν := s_e281.1) (P := 4) (as := [.int 4]) (r := []) (fun _ => rfl) rfl ?_
                show s_Ek (s_rows 3 L xs) 1298 s_e281.1 0 [(0, .int 4)] [] s_M0 _
                refine s_ek_bk 3 (P := 3) (ls' := [(0, .int 4)]) (st' := [.int 5, .int 0, .int 4]) (M' := s_M0) rfl ?_
                refine s_ek_call (ν := s_e181.1) (P := 6) (as := [.int 4, .int 0, .int 5]) (r := []) (fun _ => rfl) rfl ?_
                show s_Ek (s_rows 3 L xs) 1297 s_e181.1 0 [(0, .int 4), (1, .int 0), (2, .int 5)] [] s_M0 _
                refine s_ek_bk 8 (P := 15) (ls' := [(0, .int 4), (1, .int 0), (2, .int 5)]) (st' := [.int 1]) (M' := s_M0) rfl ?_
                refine s_ek_ret (o := some (.int 1)) (fun _ => rfl) ?_
                show s_Ek (s_rows 3 L xs) 1298 s_e281.1 6 [(0, .int 4)] [.int 1] s_M0 _
                refine s_ek_ret (o := some (.int 1)) (fun _ => rfl) ?_
                show s_Ek (s_rows 3 L xs) 1299 s_e282.1 4 [(0, .ref 151), (1, .int 4), (2, .int b)] [.int 1] s_M0 _
                refine s_ek_bk 3 (P := 9) (ls' := [(0, .ref 151), (1, .int 4), (2, .int b)]) (st' := [.int (-1), .int b]) (M' := s_M0) rfl ?_
                refine s_ek_if2 (T := 22) rfl rfl (fun h7 => ?_) (fun h7 => ?_)
                · replace h7 : b.toInt = (-1) := h7
                  refine s_ek_bk 5 (P := 29) (ls' := [(0, .ref 151), (1, .int 4), (2, .int b)]) (st' := []) (M' := (s_M0.set 181 (13, ((List.replicate 6 (Value.int (-1))).set 4 (Value.int b))))) rfl ?_
                  refine s_ek_bk 1 (P := 30) (ls' := [(0, .ref 151), (1, .int 4), (2, .int b)]) (st' := [.int 1]) (M' := (s_M0.set 181 (13, ((List.replicate 6 (Value.int (-1))).set 4 (Value.int b))))) rfl ?_
                  refine s_ek_ret (o := some (.int 1)) (fun _ => rfl) ?_
                  exact rfl
                · replace h7 : ¬ (b.toInt = (-1)) := h7
                  replace h7 : ¬ b.toInt = (-1) := by omega
                  omega
              · refine s_ek_bk 6 (P := 33) (ls' := [(0, .ref 0), (1, .int 5)]) (st' := [.ref 149]) (M' := s_M0) rfl ?_
                refine s_ek_ret (o := some (.ref 149)) (fun _ => rfl) ?_
                show s_Ek (s_rows 3 L xs) 1299 s_e162.1 35 [(0, .ref 0), (1, .int 5), (2, .int b)] [.ref 149] s_M0 _
                refine s_ek_call (ν := s_e86.1) (P := 38) (as := [.ref 149]) (r := []) (fun _ => rfl) rfl ?_
                show s_Ek (s_rows 3 L xs) 1298 s_e86.1 0 [(0, .ref 149)] [] s_M0 _
                refine s_ek_bk 3 (P := 5) (ls' := [(0, .ref 149)]) (st' := []) (M' := s_M0) rfl ?_
                refine s_ek_ret (o := none) (fun _ => rfl) ?_
                show s_Ek (s_rows 3 L xs) 1299 s_e162.1 38 [(0, .ref 0), (1, .int 5), (2, .int b)] [] s_M0 _
                refine s_ek_bk 2 (P := 51) (ls' := [(0, .ref 0), (1, .int 5), (2, .int b)]) (st' := [.int 1]) (M' := s_M0) rfl ?_
                refine s_ek_ret (o := some (.int 1)) (fun _ => rfl) ?_
                refine ⟨1, rfl, ?_⟩
                show s_Ek (s_rows 3 L xs) 1299 s_e282.1 0 [(0, .ref 151), (1, .int 5), (2, .int b)] [] s_M0 _
                refine s_ek_bk 1 (P := 1) (ls' := [(0, .ref 151), (1, .int 5), (2, .int b)]) (st' := [.int 5]) (M' := s_M0) rfl ?_
                refine s_ek_call (ν := s_e281.1) (P := 4) (as := [.int 5]) (r := []) (fun _ => rfl) rfl ?_
                show s_Ek (s_rows 3 L xs) 1298 s_e281.1 0 [(0, .int 5)] [] s_M0 _
                refine s_ek_bk 3 (P := 3) (ls' := [(0, .int 5)]) (st' := [.int 5, .int 0, .int 5]) (M' := s_M0) rfl ?_
                refine s_ek_call (ν := s_e181.1) (P := 6) (as := [.int 5, .int 0, .int 5]) (r := []) (fun _ => rfl) rfl ?_
                show s_Ek (s_rows 3 L xs) 1297 s_e181.1 0 [(0, .int 5), (1, .int 0), (2, .int 5)] [] s_M0 _
                refine s_ek_bk 8 (P := 15) (ls' := [(0, .int 5), (1, .int 0), (2, .int 5)]) (st' := [.int 1]) (M' := s_M0) rfl ?_
                refine s_ek_ret (o := some (.int 1)) (fun _ => rfl) ?_
                show s_Ek (s_rows 3 L xs) 1298 s_e281.1 6 [(0, .int 5)] [.int 1] s_M0 _
                refine s_ek_ret (o := some (.int 1)) (fun _ => rfl) ?_
                show s_Ek (s_rows 3 L xs) 1299 s_e282.1 4 [(0, .ref 151), (1, .int 5), (2, .int b)] [.int 1] s_M0 _
                refine s_ek_bk 3 (P := 9) (ls' := [(0, .ref 151), (1, .int 5), (2, .int b)]) (st' := [.int (-1), .int b]) (M' := s_M0) rfl ?_
                refine s_ek_if2 (T := 22) rfl rfl (fun h7 => ?_) (fun h7 => ?_)
                · replace h7 : b.toInt = (-1) := h7
                  refine s_ek_bk 5 (P := 29) (ls' := [(0, .ref 151), (1, .int 5), (2, .int b)]) (st' := []) (M' := (s_M0.set 181 (13, ((List.replicate 6 (Value.int (-1))).set 5 (Value.int b))))) rfl ?_
                  refine s_ek_bk 1 (P := 30) (ls' := [(0, .ref 151), (1, .int 5), (2, .int b)]) (st' := [.int 1]) (M' := (s_M0.set 181 (13, ((List.replicate 6 (Value.int (-1))).set 5 (Value.int b))))) rfl ?_
                  refine s_ek_ret (o := some (.int 1)) (fun _ => rfl) ?_
                  exact rfl
                · replace h7 : ¬ (b.toInt = (-1)) := h7
                  replace h7 : ¬ b.toInt = (-1) := by omega
                  omega
      · replace h3 : ¬ (b.toInt = (-1)) := h3
        replace h3 : ¬ b.toInt = (-1) := by omega
        refine s_ek_bk 3 (P := 17) (ls' := [(0, .ref 0), (1, .int a), (2, .int b)]) (st' := [.int b, .ref 132]) (M' := s_M0) rfl ?_
        refine s_ek_call (ν := s_e29.1) (P := 20) (as := [.ref 132, .int b]) (r := []) (fun _ => rfl) rfl ?_
        show s_Ek (s_rows 3 L xs) 1298 s_e29.1 0 [(0, .ref 132), (1, .int b)] [] s_M0 _
        refine s_ek_bk 1 (P := 1) (ls' := [(0, .ref 132), (1, .int b)]) (st' := [.int b]) (M' := s_M0) rfl ?_
        refine s_ek_if1 (T := 16) rfl rfl (fun h4 => ?_) (fun h4 => ?_)
        · replace h4 : b.toInt < 0 := h4
          refine s_ek_bk 1 (P := 17) (ls' := [(0, .ref 132), (1, .int b)]) (st' := [.int 0]) (M' := s_M0) rfl ?_
          refine s_ek_ret (o := some (.int 0)) (fun _ => rfl) ?_
          show s_Ek (s_rows 3 L xs) 1299 s_e162.1 20 [(0, .ref 0), (1, .int a), (2, .int b)] [.int 0] s_M0 _
          refine s_ek_bk 2 (P := 24) (ls' := [(0, .ref 0), (1, .int a), (2, .int b)]) (st' := [.int (-1)]) (M' := s_M0) rfl ?_
          refine s_ek_ret (o := some (.int (-1))) (fun _ => rfl) ?_
          refine ⟨(-1), rfl, ?_⟩
          show s_Ek (s_rows 3 L xs) 1299 s_e282.1 0 [(0, .ref 151), (1, .int a), (2, .int b)] [] s_M0 _
          refine s_ek_bk 1 (P := 1) (ls' := [(0, .ref 151), (1, .int a), (2, .int b)]) (st' := [.int a]) (M' := s_M0) rfl ?_
          refine s_ek_call (ν := s_e281.1) (P := 4) (as := [.int a]) (r := []) (fun _ => rfl) rfl ?_
          show s_Ek (s_rows 3 L xs) 1298 s_e281.1 0 [(0, .int a)] [] s_M0 _
          refine s_ek_bk 3 (P := 3) (ls' := [(0, .int a)]) (st' := [.int 5, .int 0, .int a]) (M' := s_M0) rfl ?_
          refine s_ek_call (ν := s_e181.1) (P := 6) (as := [.int a, .int 0, .int 5]) (r := []) (fun _ => rfl) rfl ?_
          show s_Ek (s_rows 3 L xs) 1297 s_e181.1 0 [(0, .int a), (1, .int 0), (2, .int 5)] [] s_M0 _
          refine s_ek_bk 2 (P := 2) (ls' := [(0, .int a), (1, .int 0), (2, .int 5)]) (st' := [.int 0, .int a]) (M' := s_M0) rfl ?_
          refine s_ek_if2 (T := 14) rfl rfl (fun h5 => ?_) (fun h5 => ?_)
          · replace h5 : a.toInt < 0 := h5
            omega
          · replace h5 : ¬ (a.toInt < 0) := h5
            replace h5 : 0 ≤ a.toInt := by omega
            refine s_ek_bk 2 (P := 7) (ls' := [(0, .int a), (1, .int 0), (2, .int 5)]) (st' := [.int 5, .int a]) (M' := s_M0) rfl ?_
            refine s_ek_if2 (T := 14) rfl rfl (fun h6 => ?_) (fun h6 => ?_)
            · replace h6 : 5 < a.toInt := h6
              omega
            · replace h6 : ¬ (5 < a.toInt) := h6
              replace h6 : a.toInt ≤ 5 := by omega
              refine s_ek_bk 2 (P := 15) (ls' := [(0, .int a), (1, .int 0), (2, .int 5)]) (st' := [.int 1]) (M' := s_M0) rfl ?_
              refine s_ek_ret (o := some (.int 1)) (fun _ => rfl) ?_
              show s_Ek (s_rows 3 L xs) 1298 s_e281.1 6 [(0, .int a)] [.int 1] s_M0 _
              refine s_ek_ret (o := some (.int 1)) (fun _ => rfl) ?_
              show s_Ek (s_rows 3 L xs) 1299 s_e282.1 4 [(0, .ref 151), (1, .int a), (2, .int b)] [.int 1] s_M0 _
              refine s_ek_bk 3 (P := 9) (ls' := [(0, .ref 151), (1, .int a), (2, .int b)]) (st' := [.int (-1), .int b]) (M' := s_M0) rfl ?_
              refine s_ek_if2 (T := 22) rfl rfl (fun h7 => ?_) (fun h7 => ?_)
              · replace h7 : b.toInt = (-1) := h7
                omega
              · replace h7 : ¬ (b.toInt = (-1)) := h7
                replace h7 : ¬ b.toInt = (-1) := by omega
                refine s_ek_bk 2 (P := 14) (ls' := [(0, .ref 151), (1, .int a), (2, .int b)]) (st' := [.int b, .ref 151]) (M' := s_M0) rfl ?_
                refine s_ek_call (ν := s_e262.1) (P := 17) (as := [.ref 151, .int b]) (r := []) (fun _ => rfl) rfl ?_
                show s_Ek (s_rows 3 L xs) 1298 s_e262.1 0 [(0, .ref 151), (1, .int b)] [] s_M0 _
                refine s_ek_bk 6 (P := 8) (ls' := [(0, .ref 151), (1, .int b)]) (st' := [.int (-1), .int 0, .int b]) (M' := s_M0) rfl ?_
                refine s_ek_call (ν := s_e181.1) (P := 11) (as := [.int b, .int 0, .int (-1)]) (r := []) (fun _ => rfl) rfl ?_
                show s_Ek (s_rows 3 L xs) 1297 s_e181.1 0 [(0, .int b), (1, .int 0), (2, .int (-1))] [] s_M0 _
                refine s_ek_bk 2 (P := 2) (ls' := [(0, .int b), (1, .int 0), (2, .int (-1))]) (st' := [.int 0, .int b]) (M' := s_M0) rfl ?_
                refine s_ek_if2 (T := 14) rfl rfl (fun h8 => ?_) (fun h8 => ?_)
                · replace h8 : b.toInt < 0 := h8
                  refine s_ek_bk 1 (P := 15) (ls' := [(0, .int b), (1, .int 0), (2, .int (-1))]) (st' := [.int 0]) (M' := s_M0) rfl ?_
                  refine s_ek_ret (o := some (.int 0)) (fun _ => rfl) ?_
                  show s_Ek (s_rows 3 L xs) 1298 s_e262.1 11 [(0, .ref 151), (1, .int b)] [.int 0] s_M0 _
                  refine s_ek_ret (o := some (.int 0)) (fun _ => rfl) ?_
                  show s_Ek (s_rows 3 L xs) 1299 s_e282.1 17 [(0, .ref 151), (1, .int a), (2, .int b)] [.int 0] s_M0 _
                  refine s_ek_bk 2 (P := 21) (ls' := [(0, .ref 151), (1, .int a), (2, .int b)]) (st' := [.int (-1)]) (M' := s_M0) rfl ?_
                  refine s_ek_ret (o := some (.int (-1))) (fun _ => rfl) ?_
                  exact rfl
                · replace h8 : ¬ (b.toInt < 0) := h8
                  replace h8 : 0 ≤ b.toInt := by omega
                  omega
        · replace h4 : ¬ (b.toInt < 0) := h4
          replace h4 : 0 ≤ b.toInt := by omega
          refine s_ek_bk 3 (P := 9) (ls' := [(0, .ref 132), (1, .int b)]) (st' := [.int 0, .int b]) (M' := s_M0) rfl ?_
          refine s_ek_if2 (T := 16) rfl rfl (fun h5 => ?_) (fun h5 => ?_)
          · replace h5 : 0 ≤ b.toInt := h5
            refine s_ek_bk 1 (P := 17) (ls' := [(0, .ref 132), (1, .int b)]) (st' := [.int 0]) (M' := s_M0) rfl ?_
            refine s_ek_ret (o := some (.int 0)) (fun _ => rfl) ?_
            show s_Ek (s_rows 3 L xs) 1299 s_e162.1 20 [(0, .ref 0), (1, .int a), (2, .int b)] [.int 0] s_M0 _
            refine s_ek_bk 2 (P := 24) (ls' := [(0, .ref 0), (1, .int a), (2, .int b)]) (st' := [.int (-1)]) (M' := s_M0) rfl ?_
            refine s_ek_ret (o := some (.int (-1))) (fun _ => rfl) ?_
            refine ⟨(-1), rfl, ?_⟩
            show s_Ek (s_rows 3 L xs) 1299 s_e282.1 0 [(0, .ref 151), (1, .int a), (2, .int b)] [] s_M0 _
            refine s_ek_bk 1 (P := 1) (ls' := [(0, .ref 151), (1, .int a), (2, .int b)]) (st' := [.int a]) (M' := s_M0) rfl ?_
            refine s_ek_call (ν := s_e281.1) (P := 4) (as := [.int a]) (r := []) (fun _ => rfl) rfl ?_
            show s_Ek (s_rows 3 L xs) 1298 s_e281.1 0 [(0, .int a)] [] s_M0 _
            refine s_ek_bk 3 (P := 3) (ls' := [(0, .int a)]) (st' := [.int 5, .int 0, .int a]) (M' := s_M0) rfl ?_
            refine s_ek_call (ν := s_e181.1) (P := 6) (as := [.int a, .int 0, .int 5]) (r := []) (fun _ => rfl) rfl ?_
            show s_Ek (s_rows 3 L xs) 1297 s_e181.1 0 [(0, .int a), (1, .int 0), (2, .int 5)] [] s_M0 _
            refine s_ek_bk 2 (P := 2) (ls' := [(0, .int a), (1, .int 0), (2, .int 5)]) (st' := [.int 0, .int a]) (M' := s_M0) rfl ?_
            refine s_ek_if2 (T := 14) rfl rfl (fun h6 => ?_) (fun h6 => ?_)
            · replace h6 : a.toInt < 0 := h6
              omega
            · replace h6 : ¬ (a.toInt < 0) := h6
              replace h6 : 0 ≤ a.toInt := by omega
              refine s_ek_bk 2 (P := 7) (ls' := [(0, .int a), (1, .int 0), (2, .int 5)]) (st' := [.int 5, .int a]) (M' := s_M0) rfl ?_
              refine s_ek_if2 (T := 14) rfl rfl (fun h7 => ?_) (fun h7 => ?_)
              · replace h7 : 5 < a.toInt := h7
                omega
              · replace h7 : ¬ (5 < a.toInt) := h7
                replace h7 : a.toInt ≤ 5 := by omega
                refine s_ek_bk 2 (P := 15) (ls' := [(0, .int a), (1, .int 0), (2, .int 5)]) (st' := [.int 1]) (M' := s_M0) rfl ?_
                refine s_ek_ret (o := some (.int 1)) (fun _ => rfl) ?_
                show s_Ek (s_rows 3 L xs) 1298 s_e281.1 6 [(0, .int a)] [.int 1] s_M0 _
                refine s_ek_ret (o := some (.int 1)) (fun _ => rfl) ?_
                show s_Ek (s_rows 3 L xs) 1299 s_e282.1 4 [(0, .ref 151), (1, .int a), (2, .int b)] [.int 1] s_M0 _
                refine s_ek_bk 3 (P := 9) (ls' := [(0, .ref 151), (1, .int a), (2, .int b)]) (st' := [.int (-1), .int b]) (M' := s_M0) rfl ?_
                refine s_ek_if2 (T := 22) rfl rfl (fun h8 => ?_) (fun h8 => ?_)
                · replace h8 : b.toInt = (-1) := h8
                  omega
                · replace h8 : ¬ (b.toInt = (-1)) := h8
                  replace h8 : ¬ b.toInt = (-1) := by omega
                  refine s_ek_bk 2 (P := 14) (ls' := [(0, .ref 151), (1, .int a), (2, .int b)]) (st' := [.int b, .ref 151]) (M' := s_M0) rfl ?_
                  refine s_ek_call (ν := s_e262.1) (P := 17) (as := [.ref 151, .int b]) (r := []) (fun _ => rfl) rfl ?_
                  show s_Ek (s_rows 3 L xs) 1298 s_e262.1 0 [(0, .ref 151), (1, .int b)] [] s_M0 _
                  refine s_ek_bk 6 (P := 8) (ls' := [(0, .ref 151), (1, .int b)]) (st' := [.int (-1), .int 0, .int b]) (M' := s_M0) rfl ?_
                  refine s_ek_call (ν := s_e181.1) (P := 11) (as := [.int b, .int 0, .int (-1)]) (r := []) (fun _ => rfl) rfl ?_
                  show s_Ek (s_rows 3 L xs) 1297 s_e181.1 0 [(0, .int b), (1, .int 0), (2, .int (-1))] [] s_M0 _
                  refine s_ek_bk 2 (P := 2) (ls' := [(0, .int b), (1, .int 0), (2, .int (-1))]) (st' := [.int 0, .int b]) (M' := s_M0) rfl ?_
                  refine s_ek_if2 (T := 14) rfl rfl (fun h9 => ?_) (fun h9 => ?_)
                  · replace h9 : b.toInt < 0 := h9
                    omega
                  · replace h9 : ¬ (b.toInt < 0) := h9
                    replace h9 : 0 ≤ b.toInt := by omega
                    refine s_ek_bk 2 (P := 7) (ls' := [(0, .int b), (1, .int 0), (2, .int (-1))]) (st' := [.int (-1), .int b]) (M' := s_M0) rfl ?_
                    refine s_ek_if2 (T := 14) rfl rfl (fun h10 => ?_) (fun h10 => ?_)
                    · replace h10 : (-1) < b.toInt := h10
                      refine s_ek_bk 1 (P := 15) (ls' := [(0, .int b), (1, .int 0), (2, .int (-1))]) (st' := [.int 0]) (M' := s_M0) rfl ?_
                      refine s_ek_ret (o := some (.int 0)) (fun _ => rfl) ?_
                      show s_Ek (s_rows 3 L xs) 1298 s_e262.1 11 [(0, .ref 151), (1, .int b)] [.int 0] s_M0 _
                      refine s_ek_ret (o := some (.int 0)) (fun _ => rfl) ?_
                      show s_Ek (s_rows 3 L xs) 1299 s_e282.1 17 [(0, .ref 151), (1, .int a), (2, .int b)] [.int 0] s_M0 _
                      refine s_ek_bk 2 (P := 21) (ls' := [(0, .ref 151), (1, .int a), (2, .int b)]) (st' := [.int (-1)]) (M' := s_M0) rfl ?_
                      refine s_ek_ret (o := some (.int (-1))) (fun _ => rfl) ?_
                      exact rfl
                    · replace h10 : ¬ ((-1) < b.toInt) := h10
                      replace h10 : b.toInt ≤ (-1) := by omega
                      omega
          · replace h5 : ¬ (0 ≤ b.toInt) := h5
            replace h5 : b.toInt < 0 := by omega
            omega
set_option maxHeartbeats 20000000 in
set_option maxRecDepth 100000 in
theorem s_op_put (L : Nat) (xs : Nat → Int32) (a : Int32) (b : Int32) (c : Int64) : s_Ek (s_rows 3 L xs) 1299 s_e164.1 0 (lv_args 0 [.ref 0, .int a, .int b, .long c]) [] s_M0 (fun v M1 => ∃ r : Int32, v = some (.int r) ∧ s_Ek (s_rows 3 L xs) 1299 s_e285.1 0 (lv_args 0 [.ref 151, .int a, .int b, .long c]) [] M1 (fun w _ => w = some (.int r))) := by
  show s_Ek (s_rows 3 L xs) 1299 s_e164.1 0 [(0, .ref 0), (1, .int a), (2, .int b), (3, .long c)] [] s_M0 _
  refine s_ek_bk 3 (P := 3) (ls' := [(0, .ref 0), (1, .int a), (2, .int b), (3, .long c)]) (st' := [.int b, .int a, .ref 0]) (M' := s_M0) rfl ?_
  refine s_ek_call (ν := s_e179.1) (P := 6) (as := [.ref 0, .int a, .int b]) (r := []) (fun _ => rfl) rfl ?_
  show s_Ek (s_rows 3 L xs) 1298 s_e179.1 0 [(0, .ref 0), (1, .int a), (2, .int b)] [] s_M0 _
  refine s_ek_bk 1 (P := 1) (ls' := [(0, .ref 0), (1, .int a), (2, .int b)]) (st' := [.int a]) (M' := s_M0) rfl ?_
  refine s_ek_call (ν := s_e175.1) (P := 4) (as := [.int a]) (r := []) (fun _ => rfl) rfl ?_
  show s_Ek (s_rows 3 L xs) 1297 s_e175.1 0 [(0, .int a)] [] s_M0 _
  refine s_ek_bk 1 (P := 1) (ls' := [(0, .int a)]) (st' := [.int a]) (M' := s_M0) rfl ?_
  refine s_ek_if1 (T := 14) rfl rfl (fun h1 => ?_) (fun h1 => ?_)
  · replace h1 : a.toInt < 0 := h1
    refine s_ek_bk 1 (P := 15) (ls' := [(0, .int a)]) (st' := [.int 0]) (M' := s_M0) rfl ?_
    refine s_ek_ret (o := some (.int 0)) (fun _ => rfl) ?_
    show s_Ek (s_rows 3 L xs) 1298 s_e179.1 4 [(0, .ref 0), (1, .int a), (2, .int b)] [.int 0] s_M0 _
    refine s_ek_bk 2 (P := 8) (ls' := [(0, .ref 0), (1, .int a), (2, .int b)]) (st' := [.int (-1)]) (M' := s_M0) rfl ?_
    refine s_ek_ret (o := some (.int (-1))) (fun _ => rfl) ?_
    show s_Ek (s_rows 3 L xs) 1299 s_e164.1 6 [(0, .ref 0), (1, .int a), (2, .int b), (3, .long c)] [.int (-1)] s_M0 _
    refine s_ek_bk 4 (P := 15) (ls' := [(5, .int (-1)), (0, .ref 0), (1, .int a), (2, .int b), (3, .long c)]) (st' := [.int (-1)]) (M' := s_M0) rfl ?_
    refine s_ek_ret (o := some (.int (-1))) (fun _ => rfl) ?_
    refine ⟨(-1), rfl, ?_⟩
    show s_Ek (s_rows 3 L xs) 1299 s_e285.1 0 [(0, .ref 151), (1, .int a), (2, .int b), (3, .long c)] [] s_M0 _
    refine s_ek_bk 3 (P := 3) (ls' := [(0, .ref 151), (1, .int a), (2, .int b), (3, .long c)]) (st' := [.int b, .int a, .ref 151]) (M' := s_M0) rfl ?_
    refine s_ek_call (ν := s_e284.1) (P := 6) (as := [.ref 151, .int a, .int b]) (r := []) (fun _ => rfl) rfl ?_
    show s_Ek (s_rows 3 L xs) 1298 s_e284.1 0 [(0, .ref 151), (1, .int a), (2, .int b)] [] s_M0 _
    refine s_ek_bk 1 (P := 1) (ls' := [(0, .ref 151), (1, .int a), (2, .int b)]) (st' := [.int a]) (M' := s_M0) rfl ?_
    refine s_ek_call (ν := s_e281.1) (P := 4) (as := [.int a]) (r := []) (fun _ => rfl) rfl ?_
    show s_Ek (s_rows 3 L xs) 1297 s_e281.1 0 [(0, .int a)] [] s_M0 _
    refine s_ek_bk 3 (P := 3) (ls' := [(0, .int a)]) (st' := [.int 5, .int 0, .int a]) (M' := s_M0) rfl ?_
    refine s_ek_call (ν := s_e181.1) (P := 6) (as := [.int a, .int 0, .int 5]) (r := []) (fun _ => rfl) rfl ?_
    show s_Ek (s_rows 3 L xs) 1296 s_e181.1 0 [(0, .int a), (1, .int 0), (2, .int 5)] [] s_M0 _
    refine s_ek_bk 2 (P := 2) (ls' := [(0, .int a), (1, .int 0), (2, .int 5)]) (st' := [.int 0, .int a]) (M' := s_M0) rfl ?_
    refine s_ek_if2 (T := 14) rfl rfl (fun h2 => ?_) (fun h2 => ?_)
    · replace h2 : a.toInt < 0 := h2
      refine s_ek_bk 1 (P := 15) (ls' := [(0, .int a), (1, .int 0), (2, .int 5)]) (st' := [.int 0]) (M' := s_M0) rfl ?_
      refine s_ek_ret (o := some (.int 0)) (fun _ => rfl) ?_
      show s_Ek (s_rows 3 L xs) 1297 s_e281.1 6 [(0, .int a)] [.int 0] s_M0 _
      refine s_ek_ret (o := some (.int 0)) (fun _ => rfl) ?_
      show s_Ek (s_rows 3 L xs) 1298 s_e284.1 4 [(0, .ref 151), (1, .int a), (2, .int b)] [.int 0] s_M0 _
      refine s_ek_bk 2 (P := 8) (ls' := [(0, .ref 151), (1, .int a), (2, .int b)]) (st' := [.int (-1)]) (M' := s_M0) rfl ?_
      refine s_ek_ret (o := some (.int (-1))) (fun _ => rfl) ?_
      show s_Ek (s_rows 3 L xs) 1299 s_e285.1 6 [(0, .ref 151), (1, .int a), (2, .int b), (3, .long c)] [.int (-1)] s_M0 _
      refine s_ek_bk 4 (P := 15) (ls' := [(5, .int (-1)), (0, .ref 151), (1, .int a), (2, .int b), (3, .long c)]) (st' := [.int (-1)]) (M' := s_M0) rfl ?_
      refine s_ek_ret (o := some (.int (-1))) (fun _ => rfl) ?_
      exact rfl
    · replace h2 : ¬ (a.toInt < 0) := h2
      replace h2 : 0 ≤ a.toInt := by omega
      omega
  · replace h1 : ¬ (a.toInt < 0) := h1
    replace h1 : 0 ≤ a.toInt := by omega
    refine s_ek_bk 2 (P := 7) (ls' := [(0, .int a)]) (st' := [.int 6, .int a]) (M' := s_M0) rfl ?_
    refine s_ek_if2 (T := 14) rfl rfl (fun h2 => ?_) (fun h2 => ?_)
    · replace h2 : 6 ≤ a.toInt := h2
      refine s_ek_bk 1 (P := 15) (ls' := [(0, .int a)]) (st' := [.int 0]) (M' := s_M0) rfl ?_
      refine s_ek_ret (o := some (.int 0)) (fun _ => rfl) ?_
      show s_Ek (s_rows 3 L xs) 1298 s_e179.1 4 [(0, .ref 0), (1, .int a), (2, .int b)] [.int 0] s_M0 _
      refine s_ek_bk 2 (P := 8) (ls' := [(0, .ref 0), (1, .int a), (2, .int b)]) (st' := [.int (-1)]) (M' := s_M0) rfl ?_
      refine s_ek_ret (o := some (.int (-1))) (fun _ => rfl) ?_
      show s_Ek (s_rows 3 L xs) 1299 s_e164.1 6 [(0, .ref 0), (1, .int a), (2, .int b), (3, .long c)] [.int (-1)] s_M0 _
      refine s_ek_bk 4 (P := 15) (ls' := [(5, .int (-1)), (0, .ref 0), (1, .int a), (2, .int b), (3, .long c)]) (st' := [.int (-1)]) (M' := s_M0) rfl ?_
      refine s_ek_ret (o := some (.int (-1))) (fun _ => rfl) ?_
      refine ⟨(-1), rfl, ?_⟩
      show s_Ek (s_rows 3 L xs) 1299 s_e285.1 0 [(0, .ref 151), (1, .int a), (2, .int b), (3, .long c)] [] s_M0 _
      refine s_ek_bk 3 (P := 3) (ls' := [(0, .ref 151), (1, .int a), (2, .int b), (3, .long c)]) (st' := [.int b, .int a, .ref 151]) (M' := s_M0) rfl ?_
      refine s_ek_call (ν := s_e284.1) (P := 6) (as := [.ref 151, .int a, .int b]) (r := []) (fun _ => rfl) rfl ?_
      show s_Ek (s_rows 3 L xs) 1298 s_e284.1 0 [(0, .ref 151), (1, .int a), (2, .int b)] [] s_M0 _
      refine s_ek_bk 1 (P := 1) (ls' := [(0, .ref 151), (1, .int a), (2, .int b)]) (st' := [.int a]) (M' := s_M0) rfl ?_
      refine s_ek_call (ν := s_e281.1) (P := 4) (as := [.int a]) (r := []) (fun _ => rfl) rfl ?_
      show s_Ek (s_rows 3 L xs) 1297 s_e281.1 0 [(0, .int a)] [] s_M0 _
      refine s_ek_bk 3 (P := 3) (ls' := [(0, .int a)]) (st' := [.int 5, .int 0, .int a]) (M' := s_M0) rfl ?_
      refine s_ek_call (ν := s_e181.1) (P := 6) (as := [.int a, .int 0, .int 5]) (r := []) (fun _ => rfl) rfl ?_
      show s_Ek (s_rows 3 L xs) 1296 s_e181.1 0 [(0, .int a), (1, .int 0), (2, .int 5)] [] s_M0 _
      refine s_ek_bk 2 (P := 2) (ls' := [(0, .int a), (1, .int 0), (2, .int 5)]) (st' := [.int 0, .int a]) (M' := s_M0) rfl ?_
      refine s_ek_if2 (T := 14) rfl rfl (fun h3 => ?_) (fun h3 => ?_)
      · replace h3 : a.toInt < 0 := h3
        omega
      · replace h3 : ¬ (a.toInt < 0) := h3
        replace h3 : 0 ≤ a.toInt := by omega
        refine s_ek_bk 2 (P := 7) (ls' := [(0, .int a), (1, .int 0), (2, .int 5)]) (st' := [.int 5, .int a]) (M' := s_M0) rfl ?_
        refine s_ek_if2 (T := 14) rfl rfl (fun h4 => ?_) (fun h4 => ?_)
        · replace h4 : 5 < a.toInt := h4
          refine s_ek_bk 1 (P := 15) (ls' := [(0, .int a), (1, .int 0), (2, .int 5)]) (st' := [.int 0]) (M' := s_M0) rfl ?_
          refine s_ek_ret (o := some (.int 0)) (fun _ => rfl) ?_
          show s_Ek (s_rows 3 L xs) 1297 s_e281.1 6 [(0, .int a)] [.int 0] s_M0 _
          refine s_ek_ret (o := some (.int 0)) (fun _ => rfl) ?_
          show s_Ek (s_rows 3 L xs) 1298 s_e284.1 4 [(0, .ref 151), (1, .int a), (2, .int b)] [.int 0] s_M0 _
          refine s_ek_bk 2 (P := 8) (ls' := [(0, .ref 151), (1, .int a), (2, .int b)]) (st' := [.int (-1)]) (M' := s_M0) rfl ?_
          refine s_ek_ret (o := some (.int (-1))) (fun _ => rfl) ?_
          show s_Ek (s_rows 3 L xs) 1299 s_e285.1 6 [(0, .ref 151), (1, .int a), (2, .int b), (3, .long c)] [.int (-1)] s_M0 _
          refine s_ek_bk 4 (P := 15) (ls' := [(5, .int (-1)), (0, .ref 151), (1, .int a), (2, .int b), (3, .long c)]) (st' := [.int (-1)]) (M' := s_M0) rfl ?_
          refine s_ek_ret (o := some (.int (-1))) (fun _ => rfl) ?_
          exact rfl
        · replace h4 : ¬ (5 < a.toInt) := h4
          replace h4 : a.toInt ≤ 5 := by omega
          omega
    · replace h2 : ¬ (6 ≤ a.toInt) := h2
      replace h2 : a.toInt < 6 := by omega
      refine s_ek_bk 2 (P := 15) (ls' := [(0, .int a)]) (st' := [.int 1]) (M' := s_M0) rfl ?_
      refine s_ek_ret (o := some (.int 1)) (fun _ => rfl) ?_
      show s_Ek (s_rows 3 L xs) 1298 s_e179.1 4 [(0, .ref 0), (1, .int a), (2, .int b)] [.int 1] s_M0 _
      refine s_ek_bk 3 (P := 11) (ls' := [(0, .ref 0), (1, .int a), (2, .int b)]) (st' := [.int a, .ref 0]) (M' := s_M0) rfl ?_
      refine s_ek_call (ν := s_e176.1) (P := 14) (as := [.ref 0, .int a]) (r := []) (fun _ => rfl) rfl ?_
      show s_Ek (s_rows 3 L xs) 1297 s_e176.1 0 [(0, .ref 0), (1, .int a)] [] s_M0 _
      refine s_ek_bk 1 (P := 1) (ls' := [(0, .ref 0), (1, .int a)]) (st' := [.int a]) (M' := s_M0) rfl ?_
      refine s_ek_if1 (T := 22) rfl rfl (fun h3 => ?_) (fun h3 => ?_)
      · replace h3 : a.toInt < 0 := h3
        omega
      · replace h3 : ¬ (a.toInt < 0) := h3
        replace h3 : 0 ≤ a.toInt := by omega
        refine s_ek_bk 4 (P := 10) (ls' := [(0, .ref 0), (1, .int a)]) (st' := [.int 6, .int a]) (M' := s_M0) rfl ?_
        refine s_ek_if2 (T := 22) rfl rfl (fun h4 => ?_) (fun h4 => ?_)
        · replace h4 : 6 ≤ a.toInt := h4
          omega
        · replace h4 : ¬ (6 ≤ a.toInt) := h4
          replace h4 : a.toInt < 6 := by omega
          refine s_ek_bk 3 (P := 18) (ls' := [(0, .ref 0), (1, .int a)]) (st' := [.int a, .ref 135]) (M' := s_M0) rfl ?_
          rcases s_rg_0_5 (a := a) (by omega) (by omega) with rfl | rfl | rfl | rfl | rfl | rfl
          · refine s_ek_bk 6 (P := 33) (ls' := [(0, .ref 0), (1, .int 0)]) (st' := [.ref 139]) (M' := s_M0) rfl ?_
            refine s_ek_ret (o := some (.ref 139)) (fun _ => rfl) ?_
            show s_Ek (s_rows 3 L xs) 1298 s_e179.1 14 [(0, .ref 0), (1, .int 0), (2, .int b)] [.ref 139] s_M0 _
            refine s_ek_bk 2 (P := 16) (ls' := [(3, .ref 139), (0, .ref 0), (1, .int 0), (2, .int b)]) (st' := [.ref 139]) (M' := s_M0) rfl ?_
            refine s_ek_call (ν := s_e84.1) (P := 19) (as := [.ref 139]) (r := []) (fun _ => rfl) rfl ?_
            show s_Ek (s_rows 3 L xs) 1297 s_e84.1 0 [(0, .ref 139)] [] s_M0 _
            refine s_ek_bk 6 (P := 13) (ls' := [(0, .ref 139)]) (st' := [.int 1]) (M' := s_M0) rfl ?_
            refine s_ek_ret (o := some (.int 1)) (fun _ => rfl) ?_
            show s_Ek (s_rows 3 L xs) 1298 s_e179.1 19 [(3, .ref 139), (0, .ref 0), (1, .int 0), (2, .int b)] [.int 1] s_M0 _
            refine s_ek_bk 2 (P := 24) (ls' := [(3, .ref 139), (0, .ref 0), (1, .int 0), (2, .int b)]) (st' := [.int (-11)]) (M' := s_M0) rfl ?_
            refine s_ek_ret (o := some (.int (-11))) (fun _ => rfl) ?_
            show s_Ek (s_rows 3 L xs) 1299 s_e164.1 6 [(0, .ref 0), (1, .int 0), (2, .int b), (3, .long c)] [.int (-11)] s_M0 _
            refine s_ek_bk 4 (P := 15) (ls' := [(5, .int (-11)), (0, .ref 0), (1, .int 0), (2, .int b), (3, .long c)]) (st' := [.int (-11)]) (M' := s_M0) rfl ?_
            refine s_ek_ret (o := some (.int (-11))) (fun _ => rfl) ?_
            refine ⟨(-11), rfl, ?_⟩
            show s_Ek (s_rows 3 L xs) 1299 s_e285.1 0 [(0, .ref 151), (1, .int 0), (2, .int b), (3, .long c)] [] s_M0 _
            refine s_ek_bk 3 (P := 3) (ls' := [(0, .ref 151), (1, .int 0), (2, .int b), (3, .long c)]) (st' := [.int b, .int 0, .ref 151]) (M' := s_M0) rfl ?_
            refine s_ek_call (ν := s_e284.1) (P := 6) (as := [.ref 151, .int 0, .int b]) (r := []) (fun _ => rfl) rfl ?_
            show s_Ek (s_rows 3 L xs) 1298 s_e284.1 0 [(0, .ref 151), (1, .int 0), (2, .int b)] [] s_M0 _
            refine s_ek_bk 1 (P := 1) (ls' := [(0, .ref 151), (1, .int 0), (2, .int b)]) (st' := [.int 0]) (M' := s_M0) rfl ?_
            refine s_ek_call (ν := s_e281.1) (P := 4) (as := [.int 0]) (r := []) (fun _ => rfl) rfl ?_
            show s_Ek (s_rows 3 L xs) 1297 s_e281.1 0 [(0, .int 0)] [] s_M0 _
            refine s_ek_bk 3 (P := 3) (ls' := [(0, .int 0)]) (st' := [.int 5, .int 0, .int 0]) (M' := s_M0) rfl ?_
            refine s_ek_call (ν := s_e181.1) (P := 6) (as := [.int 0, .int 0, .int 5]) (r := []) (fun _ => rfl) rfl ?_
            show s_Ek (s_rows 3 L xs) 1296 s_e181.1 0 [(0, .int 0), (1, .int 0), (2, .int 5)] [] s_M0 _
            refine s_ek_bk 8 (P := 15) (ls' := [(0, .int 0), (1, .int 0), (2, .int 5)]) (st' := [.int 1]) (M' := s_M0) rfl ?_
            refine s_ek_ret (o := some (.int 1)) (fun _ => rfl) ?_
            show s_Ek (s_rows 3 L xs) 1297 s_e281.1 6 [(0, .int 0)] [.int 1] s_M0 _
            refine s_ek_ret (o := some (.int 1)) (fun _ => rfl) ?_
            show s_Ek (s_rows 3 L xs) 1298 s_e284.1 4 [(0, .ref 151), (1, .int 0), (2, .int b)] [.int 1] s_M0 _
            refine s_ek_bk 8 (P := 21) (ls' := [(0, .ref 151), (1, .int 0), (2, .int b)]) (st' := [.int (-11)]) (M' := s_M0) rfl ?_
            refine s_ek_ret (o := some (.int (-11))) (fun _ => rfl) ?_
            show s_Ek (s_rows 3 L xs) 1299 s_e285.1 6 [(0, .ref 151), (1, .int 0), (2, .int b), (3, .long c)] [.int (-11)] s_M0 _
            refine s_ek_bk 4 (P := 15) (ls' := [(5, .int (-11)), (0, .ref 151), (1, .int 0), (2, .int b), (3, .long c)]) (st' := [.int (-11)]) (M' := s_M0) rfl ?_
            refine s_ek_ret (o := some (.int (-11))) (fun _ => rfl) ?_
            exact rfl
          · refine s_ek_bk 6 (P := 33) (ls' := [(0, .ref 0), (1, .int 1)]) (st' := [.ref 141]) (M' := s_M0) rfl ?_
            refine s_ek_ret (o := some (.ref 141)) (fun _ => rfl) ?_
            show s_Ek (s_rows 3 L xs) 1298 s_e179.1 14 [(0, .ref 0), (1, .int 1), (2, .int b)] [.ref 141] s_M0 _
            refine s_ek_bk 2 (P := 16) (ls' := [(3, .ref 141), (0, .ref 0), (1, .int 1), (2, .int b)]) (st' := [.ref 141]) (M' := s_M0) rfl ?_
            refine s_ek_call (ν := s_e84.1) (P := 19) (as := [.ref 141]) (r := []) (fun _ => rfl) rfl ?_
            show s_Ek (s_rows 3 L xs) 1297 s_e84.1 0 [(0, .ref 141)] [] s_M0 _
            refine s_ek_bk 6 (P := 13) (ls' := [(0, .ref 141)]) (st' := [.int 1]) (M' := s_M0) rfl ?_
            refine s_ek_ret (o := some (.int 1)) (fun _ => rfl) ?_
            show s_Ek (s_rows 3 L xs) 1298 s_e179.1 19 [(3, .ref 141), (0, .ref 0), (1, .int 1), (2, .int b)] [.int 1] s_M0 _
            refine s_ek_bk 2 (P := 24) (ls' := [(3, .ref 141), (0, .ref 0), (1, .int 1), (2, .int b)]) (st' := [.int (-11)]) (M' := s_M0) rfl ?_
            refine s_ek_ret (o := some (.int (-11))) (fun _ => rfl) ?_
            show s_Ek (s_rows 3 L xs) 1299 s_e164.1 6 [(0, .ref 0), (1, .int 1), (2, .int b), (3, .long c)] [.int (-11)] s_M0 _
            refine s_ek_bk 4 (P := 15) (ls' := [(5, .int (-11)), (0, .ref 0), (1, .int 1), (2, .int b), (3, .long c)]) (st' := [.int (-11)]) (M' := s_M0) rfl ?_
            refine s_ek_ret (o := some (.int (-11))) (fun _ => rfl) ?_
            refine ⟨(-11), rfl, ?_⟩
            show s_Ek (s_rows 3 L xs) 1299 s_e285.1 0 [(0, .ref 151), (1, .int 1), (2, .int b), (3, .long c)] [] s_M0 _
            refine s_ek_bk 3 (P := 3) (ls' := [(0, .ref 151), (1, .int 1), (2, .int b), (3, .long c)]) (st' := [.int b, .int 1, .ref 151]) (M' := s_M0) rfl ?_
            refine s_ek_call (ν := s_e284.1) (P := 6) (as := [.ref 151, .int 1, .int b]) (r := []) (fun _ => rfl) rfl ?_
            show s_Ek (s_rows 3 L xs) 1298 s_e284.1 0 [(0, .ref 151), (1, .int 1), (2, .int b)] [] s_M0 _
            refine s_ek_bk 1 (P := 1) (ls' := [(0, .ref 151), (1, .int 1), (2, .int b)]) (st' := [.int 1]) (M' := s_M0) rfl ?_
            refine s_ek_call (ν := s_e281.1) (P := 4) (as := [.int 1]) (r := []) (fun _ => rfl) rfl ?_
            show s_Ek (s_rows 3 L xs) 1297 s_e281.1 0 [(0, .int 1)] [] s_M0 _
            refine s_ek_bk 3 (P := 3) (ls' := [(0, .int 1)]) (st' := [.int 5, .int 0, .int 1]) (M' := s_M0) rfl ?_
            refine s_ek_call (ν := s_e181.1) (P := 6) (as := [.int 1, .int 0, .int 5]) (r := []) (fun _ => rfl) rfl ?_
            show s_Ek (s_rows 3 L xs) 1296 s_e181.1 0 [(0, .int 1), (1, .int 0), (2, .int 5)] [] s_M0 _
            refine s_ek_bk 8 (P := 15) (ls' := [(0, .int 1), (1, .int 0), (2, .int 5)]) (st' := [.int 1]) (M' := s_M0) rfl ?_
            refine s_ek_ret (o := some (.int 1)) (fun _ => rfl) ?_
            show s_Ek (s_rows 3 L xs) 1297 s_e281.1 6 [(0, .int 1)] [.int 1] s_M0 _
            refine s_ek_ret (o := some (.int 1)) (fun _ => rfl) ?_
            show s_Ek (s_rows 3 L xs) 1298 s_e284.1 4 [(0, .ref 151), (1, .int 1), (2, .int b)] [.int 1] s_M0 _
            refine s_ek_bk 8 (P := 21) (ls' := [(0, .ref 151), (1, .int 1), (2, .int b)]) (st' := [.int (-11)]) (M' := s_M0) rfl ?_
            refine s_ek_ret (o := some (.int (-11))) (fun _ => rfl) ?_
            show s_Ek (s_rows 3 L xs) 1299 s_e285.1 6 [(0, .ref 151), (1, .int 1), (2, .int b), (3, .long c)] [.int (-11)] s_M0 _
            refine s_ek_bk 4 (P := 15) (ls' := [(5, .int (-11)), (0, .ref 151), (1, .int 1), (2, .int b), (3, .long c)]) (st' := [.int (-11)]) (M' := s_M0) rfl ?_
            refine s_ek_ret (o := some (.int (-11))) (fun _ => rfl) ?_
            exact rfl
          · refine s_ek_bk 6 (P := 33) (ls' := [(0, .ref 0), (1, .int 2)]) (st' := [.ref 143]) (M' := s_M0) rfl ?_
            refine s_ek_ret (o := some (.ref 143)) (fun _ => rfl) ?_
            show s_Ek (s_rows 3 L xs) 1298 s_e179.1 14 [(0, .ref 0), (1, .int 2), (2, .int b)] [.ref 143] s_M0 _
            refine s_ek_bk 2 (P := 16) (ls' := [(3, .ref 143), (0, .ref 0), (1, .int 2), (2, .int b)]) (st' := [.ref 143]) (M' := s_M0) rfl ?_
            refine s_ek_call (ν := s_e84.1) (P := 19) (as := [.ref 143]) (r := []) (fun _ => rfl) rfl ?_
            show s_Ek (s_rows 3 L xs) 1297 s_e84.1 0 [(0, .ref 143)] [] s_M0 _
            refine s_ek_bk 6 (P := 13) (ls' := [(0, .ref 143)]) (st' := [.int 1]) (M' := s_M0) rfl ?_
            refine s_ek_ret (o := some (.int 1)) (fun _ => rfl) ?_
            show s_Ek (s_rows 3 L xs) 1298 s_e179.1 19 [(3, .ref 143), (0, .ref 0), (1, .int 2), (2, .int b)] [.int 1] s_M0 _
            refine s_ek_bk 2 (P := 24) (ls' := [(3, .ref 143), (0, .ref 0), (1, .int 2), (2, .int b)]) (st' := [.int (-11)]) (M' := s_M0) rfl ?_
            refine s_ek_ret (o := some (.int (-11))) (fun _ => rfl) ?_
            show s_Ek (s_rows 3 L xs) 1299 s_e164.1 6 [(0, .ref 0), (1, .int 2), (2, .int b), (3, .long c)] [.int (-11)] s_M0 _
            refine s_ek_bk 4 (P := 15) (ls' := [(5, .int (-11)), (0, .ref 0), (1, .int 2), (2, .int b), (3, .long c)]) (st' := [.int (-11)]) (M' := s_M0) rfl ?_
            refine s_ek_ret (o := some (.int (-11))) (fun _ => rfl) ?_
            refine ⟨(-11), rfl, ?_⟩
            show s_Ek (s_rows 3 L xs) 1299 s_e285.1 0 [(0, .ref 151), (1, .int 2), (2, .int b), (3, .long c)] [] s_M0 _
            refine s_ek_bk 3 (P := 3) (ls' := [(0, .ref 151), (1, .int 2), (2, .int b), (3, .long c)]) (st' := [.int b, .int 2, .ref 151]) (M' := s_M0) rfl ?_
            refine s_ek_call (ν := s_e284.1) (P := 6) (as := [.ref 151, .int 2, .int b]) (r := []) (fun _ => rfl) rfl ?_
            show s_Ek (s_rows 3 L xs) 1298 s_e284.1 0 [(0, .ref 151), (1, .int 2), (2, .int b)] [] s_M0 _
            refine s_ek_bk 1 (P := 1) (ls' := [(0, .ref 151), (1, .int 2), (2, .int b)]) (st' := [.int 2]) (M' := s_M0) rfl ?_
            refine s_ek_call (ν := s_e281.1) (P := 4) (as := [.int 2]) (r := []) (fun _ => rfl) rfl ?_
            show s_Ek (s_rows 3 L xs) 1297 s_e281.1 0 [(0, .int 2)] [] s_M0 _
            refine s_ek_bk 3 (P := 3) (ls' := [(0, .int 2)]) (st' := [.int 5, .int 0, .int 2]) (M' := s_M0) rfl ?_
            refine s_ek_call (ν := s_e181.1) (P := 6) (as := [.int 2, .int 0, .int 5]) (r := []) (fun _ => rfl) rfl ?_
            show s_Ek (s_rows 3 L xs) 1296 s_e181.1 0 [(0, .int 2), (1, .int 0), (2, .int 5)] [] s_M0 _
            refine s_ek_bk 8 (P := 15) (ls' := [(0, .int 2), (1, .int 0), (2, .int 5)]) (st' := [.int 1]) (M' := s_M0) rfl ?_
            refine s_ek_ret (o := some (.int 1)) (fun _ => rfl) ?_
            show s_Ek (s_rows 3 L xs) 1297 s_e281.1 6 [(0, .int 2)] [.int 1] s_M0 _
            refine s_ek_ret (o := some (.int 1)) (fun _ => rfl) ?_
            show s_Ek (s_rows 3 L xs) 1298 s_e284.1 4 [(0, .ref 151), (1, .int 2), (2, .int b)] [.int 1] s_M0 _
            refine s_ek_bk 8 (P := 21) (ls' := [(0, .ref 151), (1, .int 2), (2, .int b)]) (st' := [.int (-11)]) (M' := s_M0) rfl ?_
            refine s_ek_ret (o := some (.int (-11))) (fun _ => rfl) ?_
            show s_Ek (s_rows 3 L xs) 1299 s_e285.1 6 [(0, .ref 151), (1, .int 2), (2, .int b), (3, .long c)] [.int (-11)] s_M0 _
            refine s_ek_bk 4 (P := 15) (ls' := [(5, .int (-11)), (0, .ref 151), (1, .int 2), (2, .int b), (3, .long c)]) (st' := [.int (-11)]) (M' := s_M0) rfl ?_
            refine s_ek_ret (o := some (.int (-11))) (fun _ => rfl) ?_
            exact rfl
          · refine s_ek_bk 6 (P := 33) (ls' := [(0, .ref 0), (1, .int 3)]) (st' := [.ref 145]) (M' := s_M0) rfl ?_
            refine s_ek_ret (o := some (.ref 145)) (fun _ => rfl) ?_
            show s_Ek (s_rows 3 L xs) 1298 s_e179.1 14 [(0, .ref 0), (1, .int 3), (2, .int b)] [.ref 145] s_M0 _
            refine s_ek_bk 2 (P := 16) (ls' := [(3, .ref 145), (0, .ref 0), (1, .int 3), (2, .int b)]) (st' := [.ref 145]) (M' := s_M0) rfl ?_
            refine s_ek_call (ν := s_e84.1) (P := 19) (as := [.ref 145]) (r := []) (fun _ => rfl) rfl ?_
            show s_Ek (s_rows 3 L xs) 1297 s_e84.1 0 [(0, .ref 145)] [] s_M0 _
            refine s_ek_bk 6 (P := 13) (ls' := [(0, .ref 145)]) (st' := [.int 1]) (M' := s_M0) rfl ?_
            refine s_ek_ret (o := some (.int 1)) (fun _ => rfl) ?_
            show s_Ek (s_rows 3 L xs) 1298 s_e179.1 19 [(3, .ref 145), (0, .ref 0), (1, .int 3), (2, .int b)] [.int 1] s_M0 _
            refine s_ek_bk 2 (P := 24) (ls' := [(3, .ref 145), (0, .ref 0), (1, .int 3), (2, .int b)]) (st' := [.int (-11)]) (M' := s_M0) rfl ?_
            refine s_ek_ret (o := some (.int (-11))) (fun _ => rfl) ?_
            show s_Ek (s_rows 3 L xs) 1299 s_e164.1 6 [(0, .ref 0), (1, .int 3), (2, .int b), (3, .long c)] [.int (-11)] s_M0 _
            refine s_ek_bk 4 (P := 15) (ls' := [(5, .int (-11)), (0, .ref 0), (1, .int 3), (2, .int b), (3, .long c)]) (st' := [.int (-11)]) (M' := s_M0) rfl ?_
            refine s_ek_ret (o := some (.int (-11))) (fun _ => rfl) ?_
            refine ⟨(-11), rfl, ?_⟩
            show s_Ek (s_rows 3 L xs) 1299 s_e285.1 0 [(0, .ref 151), (1, .int 3), (2, .int b), (3, .long c)] [] s_M0 _
            refine s_ek_bk 3 (P := 3) (ls' := [(0, .ref 151), (1, .int 3), (2, .int b), (3, .long c)]) (st' := [.int b, .int 3, .ref 151]) (M' := s_M0) rfl ?_
            refine s_ek_call (ν := s_e284.1) (P := 6) (as := [.ref 151, .int 3, .int b]) (r := []) (fun _ => rfl) rfl ?_
            show s_Ek (s_rows 3 L xs) 1298 s_e284.1 0 [(0, .ref 151), (1, .int 3), (2, .int b)] [] s_M0 _
            refine s_ek_bk 1 (P := 1) (ls' := [(0, .ref 151), (1, .int 3), (2, .int b)]) (st' := [.int 3]) (M' := s_M0) rfl ?_
            refine s_ek_call (ν := s_e281.1) (P := 4) (as := [.int 3]) (r := []) (fun _ => rfl) rfl ?_
            show s_Ek (s_rows 3 L xs) 1297 s_e281.1 0 [(0, .int 3)] [] s_M0 _
            refine s_ek_bk 3 (P := 3) (ls' := [(0, .int 3)]) (st' := [.int 5, .int 0, .int 3]) (M' := s_M0) rfl ?_
            refine s_ek_call (ν := s_e181.1) (P := 6) (as := [.int 3, .int 0, .int 5]) (r := []) (fun _ => rfl) rfl ?_
            show s_Ek (s_rows 3 L xs) 1296 s_e181.1 0 [(0, .int 3), (1, .int 0), (2, .int 5)] [] s_M0 _
            refine s_ek_bk 8 (P := 15) (ls' := [(0, .int 3), (1, .int 0), (2, .int 5)]) (st' := [.int 1]) (M' := s_M0) rfl ?_
            refine s_ek_ret (o := some (.int 1)) (fun _ => rfl) ?_
            show s_Ek (s_rows 3 L xs) 1297 s_e281.1 6 [(0, .int 3)] [.int 1] s_M0 _
            refine s_ek_ret (o := some (.int 1)) (fun _ => rfl) ?_
            show s_Ek (s_rows 3 L xs) 1298 s_e284.1 4 [(0, .ref 151), (1, .int 3), (2, .int b)] [.int 1] s_M0 _
            refine s_ek_bk 8 (P := 21) (ls' := [(0, .ref 151), (1, .int 3), (2, .int b)]) (st' := [.int (-11)]) (M' := s_M0) rfl ?_
            refine s_ek_ret (o := some (.int (-11))) (fun _ => rfl) ?_
            show s_Ek (s_rows 3 L xs) 1299 s_e285.1 6 [(0, .ref 151), (1, .int 3), (2, .int b), (3, .long c)] [.int (-11)] s_M0 _
            refine s_ek_bk 4 (P := 15) (ls' := [(5, .int (-11)), (0, .ref 151), (1, .int 3), (2, .int b), (3, .long c)]) (st' := [.int (-11)]) (M' := s_M0) rfl ?_
            refine s_ek_ret (o := some (.int (-11))) (fun _ => rfl) ?_
            exact rfl
          · refine s_ek_bk 6 (P := 33) (ls' := [(0, .ref 0), (1, .int 4)]) (st' := [.ref 147]) (M' := s_M0) rfl ?_
            refine s_ek_ret (o := some (.ref 147)) (fun _ => rfl) ?_
            show s_Ek (s_rows 3 L xs) 1298 s_e179.1 14 [(0, .ref 0), (1, .int 4), (2, .int b)] [.ref 147] s_M0 _
            refine s_ek_bk 2 (P := 16) (ls' := [(3, .ref 147), (0, .ref 0), (1, .int 4), (2, .int b)]) (st' := [.ref 147]) (M' := s_M0) rfl ?_
            refine s_ek_call (ν := s_e84.1) (P := 19) (as := [.ref 147]) (r := []) (fun _ => rfl) rfl ?_
            show s_Ek (s_rows 3 L xs) 1297 s_e84.1 0 [(0, .ref 147)] [] s_M0 _
            refine s_ek_bk 6 (P := 13) (ls' := [(0, .ref 147)]) (st' := [.int 1]) (M' := s_M0) rfl ?_
            refine s_ek_ret (o := some (.int 1)) (fun _ => rfl) ?_
            show s_Ek (s_rows 3 L xs) 1298 s_e179.1 19 [(3, .ref 147), (0, .ref 0), (1, .int 4), (2, .int b)] [.int 1] s_M0 _
            refine s_ek_bk 2 (P := 24) (ls' := [(3, .ref 147), (0, .ref 0), (1, .int 4), (2, .int b)]) (st' := [.int (-11)]) (M' := s_M0) rfl ?_
            refine s_ek_ret (o := some (.int (-11))) (fun _ => rfl) ?_
            show s_Ek (s_rows 3 L xs) 1299 s_e164.1 6 [(0, .ref 0), (1, .int 4), (2, .int b), (3, .long c)] [.int (-11)] s_M0 _
            refine s_ek_bk 4 (P := 15) (ls' := [(5, .int (-11)), (0, .ref 0), (1, .int 4), (2, .int b), (3, .long c)]) (st' := [.int (-11)]) (M' := s_M0) rfl ?_
            refine s_ek_ret (o := some (.int (-11))) (fun _ => rfl) ?_
            refine ⟨(-11), rfl, ?_⟩
            show s_Ek (s_rows 3 L xs) 1299 s_e285.1 0 [(0, .ref 151), (1, .int 4), (2, .int b), (3, .long c)] [] s_M0 _
            refine s_ek_bk 3 (P := 3) (ls' := [(0, .ref 151), (1, .int 4), (2, .int b), (3, .long c)]) (st' := [.int b, .int 4, .ref 151]) (M' := s_M0) rfl ?_
            refine s_ek_call (ν := s_e284.1) (P := 6) (as := [.ref 151, .int 4, .int b]) (r := []) (fun _ => rfl) rfl ?_
            show s_Ek (s_rows 3 L xs) 1298 s_e284.1 0 [(0, .ref 151), (1, .int 4), (2, .int b)] [] s_M0 _
            refine s_ek_bk 1 (P := 1) (ls' := [(0, .ref 151), (1, .int 4), (2, .int b)]) (st' := [.int 4]) (M' := s_M0) rfl ?_
            refine s_ek_call (ν := s_e281.1) (P := 4) (as := [.int 4]) (r := []) (fun _ => rfl) rfl ?_
            show s_Ek (s_rows 3 L xs) 1297 s_e281.1 0 [(0, .int 4)] [] s_M0 _
            refine s_ek_bk 3 (P := 3) (ls' := [(0, .int 4)]) (st' := [.int 5, .int 0, .int 4]) (M' := s_M0) rfl ?_
            refine s_ek_call (ν := s_e181.1) (P := 6) (as := [.int 4, .int 0, .int 5]) (r := []) (fun _ => rfl) rfl ?_
            show s_Ek (s_rows 3 L xs) 1296 s_e181.1 0 [(0, .int 4), (1, .int 0), (2, .int 5)] [] s_M0 _
            refine s_ek_bk 8 (P := 15) (ls' := [(0, .int 4), (1, .int 0), (2, .int 5)]) (st' := [.int 1]) (M' := s_M0) rfl ?_
            refine s_ek_ret (o := some (.int 1)) (fun _ => rfl) ?_
            show s_Ek (s_rows 3 L xs) 1297 s_e281.1 6 [(0, .int 4)] [.int 1] s_M0 _
            refine s_ek_ret (o := some (.int 1)) (fun _ => rfl) ?_
            show s_Ek (s_rows 3 L xs) 1298 s_e284.1 4 [(0, .ref 151), (1, .int 4), (2, .int b)] [.int 1] s_M0 _
            refine s_ek_bk 8 (P := 21) (ls' := [(0, .ref 151), (1, .int 4), (2, .int b)]) (st' := [.int (-11)]) (M' := s_M0) rfl ?_
            refine s_ek_ret (o := some (.int (-11))) (fun _ => rfl) ?_
            show s_Ek (s_rows 3 L xs) 1299 s_e285.1 6 [(0, .ref 151), (1, .int 4), (2, .int b), (3, .long c)] [.int (-11)] s_M0 _
            refine s_ek_bk 4 (P := 15) (ls' := [(5, .int (-11)), (0, .ref 151), (1, .int 4), (2, .int b), (3, .long c)]) (st' := [.int (-11)]) (M' := s_M0) rfl ?_
            refine s_ek_ret (o := some (.int (-11))) (fun _ => rfl) ?_
            exact rfl
          · refine s_ek_bk 6 (P := 33) (ls' := [(0, .ref 0), (1, .int 5)]) (st' := [.ref 149]) (M' := s_M0) rfl ?_
            refine s_ek_ret (o := some (.ref 149)) (fun _ => rfl) ?_
            show s_Ek (s_rows 3 L xs) 1298 s_e179.1 14 [(0, .ref 0), (1, .int 5), (2, .int b)] [.ref 149] s_M0 _
            refine s_ek_bk 2 (P := 16) (ls' := [(3, .ref 149), (0, .ref 0), (1, .int 5), (2, .int b)]) (st' := [.ref 149]) (M' := s_M0) rfl ?_
            refine s_ek_call (ν := s_e84.1) (P := 19) (as := [.ref 149]) (r := []) (fun _ => rfl) rfl ?_
            show s_Ek (s_rows 3 L xs) 1297 s_e84.1 0 [(0, .ref 149)] [] s_M0 _
            refine s_ek_bk 6 (P := 13) (ls' := [(0, .ref 149)]) (st' := [.int 1]) (M' := s_M0) rfl ?_
            refine s_ek_ret (o := some (.int 1)) (fun _ => rfl) ?_
            show s_Ek (s_rows 3 L xs) 1298 s_e179.1 19 [(3, .ref 149), (0, .ref 0), (1, .int 5), (2, .int b)] [.int 1] s_M0 _
            refine s_ek_bk 2 (P := 24) (ls' := [(3, .ref 149), (0, .ref 0), (1, .int 5), (2, .int b)]) (st' := [.int (-11)]) (M' := s_M0) rfl ?_
            refine s_ek_ret (o := some (.int (-11))) (fun _ => rfl) ?_
            show s_Ek (s_rows 3 L xs) 1299 s_e164.1 6 [(0, .ref 0), (1, .int 5), (2, .int b), (3, .long c)] [.int (-11)] s_M0 _
            refine s_ek_bk 4 (P := 15) (ls' := [(5, .int (-11)), (0, .ref 0), (1, .int 5), (2, .int b), (3, .long c)]) (st' := [.int (-11)]) (M' := s_M0) rfl ?_
            refine s_ek_ret (o := some (.int (-11))) (fun _ => rfl) ?_
            refine ⟨(-11), rfl, ?_⟩
            show s_Ek (s_rows 3 L xs) 1299 s_e285.1 0 [(0, .ref 151), (1, .int 5), (2, .int b), (3, .long c)] [] s_M0 _
            refine s_ek_bk 3 (P := 3) (ls' := [(0, .ref 151), (1, .int 5), (2, .int b), (3, .long c)]) (st' := [.int b, .int 5, .ref 151]) (M' := s_M0) rfl ?_
            refine s_ek_call (ν := s_e284.1) (P := 6) (as := [.ref 151, .int 5, .int b]) (r := []) (fun _ => rfl) rfl ?_
            show s_Ek (s_rows 3 L xs) 1298 s_e284.1 0 [(0, .ref 151), (1, .int 5), (2, .int b)] [] s_M0 _
            refine s_ek_bk 1 (P := 1) (ls' := [(0, .ref 151), (1, .int 5), (2, .int b)]) (st' := [.int 5]) (M' := s_M0) rfl ?_
            refine s_ek_call (ν := s_e281.1) (P := 4) (as := [.int 5]) (r := []) (fun _ => rfl) rfl ?_
            show s_Ek (s_rows 3 L xs) 1297 s_e281.1 0 [(0, .int 5)] [] s_M0 _
            refine s_ek_bk 3 (P := 3) (ls' := [(0, .int 5)]) (st' := [.int 5, .int 0, .int 5]) (M' := s_M0) rfl ?_
            refine s_ek_call (ν := s_e181.1) (P := 6) (as := [.int 5, .int 0, .int 5]) (r := []) (fun _ => rfl) rfl ?_
            show s_Ek (s_rows 3 L xs) 1296 s_e181.1 0 [(0, .int 5), (1, .int 0), (2, .int 5)] [] s_M0 _
            refine s_ek_bk 8 (P := 15) (ls' := [(0, .int 5), (1, .int 0), (2, .int 5)]) (st' := [.int 1]) (M' := s_M0) rfl ?_
            refine s_ek_ret (o := some (.int 1)) (fun _ => rfl) ?_
            show s_Ek (s_rows 3 L xs) 1297 s_e281.1 6 [(0, .int 5)] [.int 1] s_M0 _
            refine s_ek_ret (o := some (.int 1)) (fun _ => rfl) ?_
            show s_Ek (s_rows 3 L xs) 1298 s_e284.1 4 [(0, .ref 151), (1, .int 5), (2, .int b)] [.int 1] s_M0 _
            refine s_ek_bk 8 (P := 21) (ls' := [(0, .ref 151), (1, .int 5), (2, .int b)]) (st' := [.int (-11)]) (M' := s_M0) rfl ?_
            refine s_ek_ret (o := some (.int (-11))) (fun _ => rfl) ?_
            show s_Ek (s_rows 3 L xs) 1299 s_e285.1 6 [(0, .ref 151), (1, .int 5), (2, .int b), (3, .long c)] [.int (-11)] s_M0 _
            refine s_ek_bk 4 (P := 15) (ls' := [(5, .int (-11)), (0, .ref 151), (1, .int 5), (2, .int b), (3, .long c)]) (st' := [.int (-11)]) (M' := s_M0) rfl ?_
            refine s_ek_ret (o := some (.int (-11))) (fun _ => rfl) ?_
            exact rfl
set_option maxHeartbeats 20000000 in
set_option maxRecDepth 100000 in
theorem s_op_element (L : Nat) (xs : Nat → Int32) (a : Int32) (b : Int32) : s_Ek (s_rows 3 L xs) 1299 s_e165.1 0 (lv_args 0 [.ref 0, .int a, .int b]) [] s_M0 (fun v M1 => ∃ r : Int64, v = some (.long r) ∧ s_Ek (s_rows 3 L xs) 1299 s_e286.1 0 (lv_args 0 [.ref 151, .int a, .int b]) [] M1 (fun w _ => w = some (.long r))) := by
  show s_Ek (s_rows 3 L xs) 1299 s_e165.1 0 [(0, .ref 0), (1, .int a), (2, .int b)] [] s_M0 _
  refine s_ek_bk 3 (P := 3) (ls' := [(0, .ref 0), (1, .int a), (2, .int b)]) (st' := [.int b, .int a, .ref 0]) (M' := s_M0) rfl ?_
  refine s_ek_call (ν := s_e179.1) (P := 6) (as := [.ref 0, .int a, .int b]) (r := []) (fun _ => rfl) rfl ?_
  show s_Ek (s_rows 3 L xs) 1298 s_e179.1 0 [(0, .ref 0), (1, .int a), (2, .int b)] [] s_M0 _
  refine s_ek_bk 1 (P := 1) (ls' := [(0, .ref 0), (1, .int a), (2, .int b)]) (st' := [.int a]) (M' := s_M0) rfl ?_
  refine s_ek_call (ν := s_e175.1) (P := 4) (as := [.int a]) (r := []) (fun _ => rfl) rfl ?_
  show s_Ek (s_rows 3 L xs) 1297 s_e175.1 0 [(0, .int a)] [] s_M0 _
  refine s_ek_bk 1 (P := 1) (ls' := [(0, .int a)]) (st' := [.int a]) (M' := s_M0) rfl ?_
  refine s_ek_if1 (T := 14) rfl rfl (fun h1 => ?_) (fun h1 => ?_)
  · replace h1 : a.toInt < 0 := h1
    refine s_ek_bk 1 (P := 15) (ls' := [(0, .int a)]) (st' := [.int 0]) (M' := s_M0) rfl ?_
    refine s_ek_ret (o := some (.int 0)) (fun _ => rfl) ?_
    show s_Ek (s_rows 3 L xs) 1298 s_e179.1 4 [(0, .ref 0), (1, .int a), (2, .int b)] [.int 0] s_M0 _
    refine s_ek_bk 2 (P := 8) (ls' := [(0, .ref 0), (1, .int a), (2, .int b)]) (st' := [.int (-1)]) (M' := s_M0) rfl ?_
    refine s_ek_ret (o := some (.int (-1))) (fun _ => rfl) ?_
    show s_Ek (s_rows 3 L xs) 1299 s_e165.1 6 [(0, .ref 0), (1, .int a), (2, .int b)] [.int (-1)] s_M0 _
    refine s_ek_bk 3 (P := 24) (ls' := [(0, .ref 0), (1, .int a), (2, .int b)]) (st' := [.long (-9223372036854775808)]) (M' := s_M0) rfl ?_
    refine s_ek_ret (o := some (.long (-9223372036854775808))) (fun _ => rfl) ?_
    refine ⟨(-9223372036854775808), rfl, ?_⟩
    show s_Ek (s_rows 3 L xs) 1299 s_e286.1 0 [(0, .ref 151), (1, .int a), (2, .int b)] [] s_M0 _
    refine s_ek_bk 3 (P := 3) (ls' := [(0, .ref 151), (1, .int a), (2, .int b)]) (st' := [.int b, .int a, .ref 151]) (M' := s_M0) rfl ?_
    refine s_ek_call (ν := s_e284.1) (P := 6) (as := [.ref 151, .int a, .int b]) (r := []) (fun _ => rfl) rfl ?_
    show s_Ek (s_rows 3 L xs) 1298 s_e284.1 0 [(0, .ref 151), (1, .int a), (2, .int b)] [] s_M0 _
    refine s_ek_bk 1 (P := 1) (ls' := [(0, .ref 151), (1, .int a), (2, .int b)]) (st' := [.int a]) (M' := s_M0) rfl ?_
    refine s_ek_call (ν := s_e281.1) (P := 4) (as := [.int a]) (r := []) (fun _ => rfl) rfl ?_
    show s_Ek (s_rows 3 L xs) 1297 s_e281.1 0 [(0, .int a)] [] s_M0 _
    refine s_ek_bk 3 (P := 3) (ls' := [(0, .int a)]) (st' := [.int 5, .int 0, .int a]) (M' := s_M0) rfl ?_
    refine s_ek_call (ν := s_e181.1) (P := 6) (as := [.int a, .int 0, .int 5]) (r := []) (fun _ => rfl) rfl ?_
    show s_Ek (s_rows 3 L xs) 1296 s_e181.1 0 [(0, .int a), (1, .int 0), (2, .int 5)] [] s_M0 _
    refine s_ek_bk 2 (P := 2) (ls' := [(0, .int a), (1, .int 0), (2, .int 5)]) (st' := [.int 0, .int a]) (M' := s_M0) rfl ?_
    refine s_ek_if2 (T := 14) rfl rfl (fun h2 => ?_) (fun h2 => ?_)
    · replace h2 : a.toInt < 0 := h2
      refine s_ek_bk 1 (P := 15) (ls' := [(0, .int a), (1, .int 0), (2, .int 5)]) (st' := [.int 0]) (M' := s_M0) rfl ?_
      refine s_ek_ret (o := some (.int 0)) (fun _ => rfl) ?_
      show s_Ek (s_rows 3 L xs) 1297 s_e281.1 6 [(0, .int a)] [.int 0] s_M0 _
      refine s_ek_ret (o := some (.int 0)) (fun _ => rfl) ?_
      show s_Ek (s_rows 3 L xs) 1298 s_e284.1 4 [(0, .ref 151), (1, .int a), (2, .int b)] [.int 0] s_M0 _
      refine s_ek_bk 2 (P := 8) (ls' := [(0, .ref 151), (1, .int a), (2, .int b)]) (st' := [.int (-1)]) (M' := s_M0) rfl ?_
      refine s_ek_ret (o := some (.int (-1))) (fun _ => rfl) ?_
      show s_Ek (s_rows 3 L xs) 1299 s_e286.1 6 [(0, .ref 151), (1, .int a), (2, .int b)] [.int (-1)] s_M0 _
      refine s_ek_bk 3 (P := 26) (ls' := [(0, .ref 151), (1, .int a), (2, .int b)]) (st' := [.long (-9223372036854775808)]) (M' := s_M0) rfl ?_
      refine s_ek_ret (o := some (.long (-9223372036854775808))) (fun _ => rfl) ?_
      exact rfl
    · replace h2 : ¬ (a.toInt < 0) := h2
      replace h2 : 0 ≤ a.toInt := by omega
      omega
  · replace h1 : ¬ (a.toInt < 0) := h1
    replace h1 : 0 ≤ a.toInt := by omega
    refine s_ek_bk 2 (P := 7) (ls' := [(0, .int a)]) (st' := [.int 6, .int a]) (M' := s_M0) rfl ?_
    refine s_ek_if2 (T := 14) rfl rfl (fun h2 => ?_) (fun h2 => ?_)
    · replace h2 : 6 ≤ a.toInt := h2
      refine s_ek_bk 1 (P := 15) (ls' := [(0, .int a)]) (st' := [.int 0]) (M' := s_M0) rfl ?_
      refine s_ek_ret (o := some (.int 0)) (fun _ => rfl) ?_
      show s_Ek (s_rows 3 L xs) 1298 s_e179.1 4 [(0, .ref 0), (1, .int a), (2, .int b)] [.int 0] s_M0 _
      refine s_ek_bk 2 (P := 8) (ls' := [(0, .ref 0), (1, .int a), (2, .int b)]) (st' := [.int (-1)]) (M' := s_M0) rfl ?_
      refine s_ek_ret (o := some (.int (-1))) (fun _ => rfl) ?_
      show s_Ek (s_rows 3 L xs) 1299 s_e165.1 6 [(0, .ref 0), (1, .int a), (2, .int b)] [.int (-1)] s_M0 _
      refine s_ek_bk 3 (P := 24) (ls' := [(0, .ref 0), (1, .int a), (2, .int b)]) (st' := [.long (-9223372036854775808)]) (M' := s_M0) rfl ?_
      refine s_ek_ret (o := some (.long (-9223372036854775808))) (fun _ => rfl) ?_
      refine ⟨(-9223372036854775808), rfl, ?_⟩
      show s_Ek (s_rows 3 L xs) 1299 s_e286.1 0 [(0, .ref 151), (1, .int a), (2, .int b)] [] s_M0 _
      refine s_ek_bk 3 (P := 3) (ls' := [(0, .ref 151), (1, .int a), (2, .int b)]) (st' := [.int b, .int a, .ref 151]) (M' := s_M0) rfl ?_
      refine s_ek_call (ν := s_e284.1) (P := 6) (as := [.ref 151, .int a, .int b]) (r := []) (fun _ => rfl) rfl ?_
      show s_Ek (s_rows 3 L xs) 1298 s_e284.1 0 [(0, .ref 151), (1, .int a), (2, .int b)] [] s_M0 _
      refine s_ek_bk 1 (P := 1) (ls' := [(0, .ref 151), (1, .int a), (2, .int b)]) (st' := [.int a]) (M' := s_M0) rfl ?_
      refine s_ek_call (ν := s_e281.1) (P := 4) (as := [.int a]) (r := []) (fun _ => rfl) rfl ?_
      show s_Ek (s_rows 3 L xs) 1297 s_e281.1 0 [(0, .int a)] [] s_M0 _
      refine s_ek_bk 3 (P := 3) (ls' := [(0, .int a)]) (st' := [.int 5, .int 0, .int a]) (M' := s_M0) rfl ?_
      refine s_ek_call (ν := s_e181.1) (P := 6) (as := [.int a, .int 0, .int 5]) (r := []) (fun _ => rfl) rfl ?_
      show s_Ek (s_rows 3 L xs) 1296 s_e181.1 0 [(0, .int a), (1, .int 0), (2, .int 5)] [] s_M0 _
      refine s_ek_bk 2 (P := 2) (ls' := [(0, .int a), (1, .int 0), (2, .int 5)]) (st' := [.int 0, .int a]) (M' := s_M0) rfl ?_
      refine s_ek_if2 (T := 14) rfl rfl (fun h3 => ?_) (fun h3 => ?_)
      · replace h3 : a.toInt < 0 := h3
        omega
      · replace h3 : ¬ (a.toInt < 0) := h3
        replace h3 : 0 ≤ a.toInt := by omega
        refine s_ek_bk 2 (P := 7) (ls' := [(0, .int a), (1, .int 0), (2, .int 5)]) (st' := [.int 5, .int a]) (M' := s_M0) rfl ?_
        refine s_ek_if2 (T := 14) rfl rfl (fun h4 => ?_) (fun h4 => ?_)
        · replace h4 : 5 < a.toInt := h4
          refine s_ek_bk 1 (P := 15) (ls' := [(0, .int a), (1, .int 0), (2, .int 5)]) (st' := [.int 0]) (M' := s_M0) rfl ?_
          refine s_ek_ret (o := some (.int 0)) (fun _ => rfl) ?_
          show s_Ek (s_rows 3 L xs) 1297 s_e281.1 6 [(0, .int a)] [.int 0] s_M0 _
          refine s_ek_ret (o := some (.int 0)) (fun _ => rfl) ?_
          show s_Ek (s_rows 3 L xs) 1298 s_e284.1 4 [(0, .ref 151), (1, .int a), (2, .int b)] [.int 0] s_M0 _
          refine s_ek_bk 2 (P := 8) (ls' := [(0, .ref 151), (1, .int a), (2, .int b)]) (st' := [.int (-1)]) (M' := s_M0) rfl ?_
          refine s_ek_ret (o := some (.int (-1))) (fun _ => rfl) ?_
          show s_Ek (s_rows 3 L xs) 1299 s_e286.1 6 [(0, .ref 151), (1, .int a), (2, .int b)] [.int (-1)] s_M0 _
          refine s_ek_bk 3 (P := 26) (ls' := [(0, .ref 151), (1, .int a), (2, .int b)]) (st' := [.long (-9223372036854775808)]) (M' := s_M0) rfl ?_
          refine s_ek_ret (o := some (.long (-9223372036854775808))) (fun _ => rfl) ?_
          exact rfl
        · replace h4 : ¬ (5 < a.toInt) := h4
          replace h4 : a.toInt ≤ 5 := by omega
          omega
    · replace h2 : ¬ (6 ≤ a.toInt) := h2
      replace h2 : a.toInt < 6 := by omega
      refine s_ek_bk 2 (P := 15) (ls' := [(0, .int a)]) (st' := [.int 1]) (M' := s_M0) rfl ?_
      refine s_ek_ret (o := some (.int 1)) (fun _ => rfl) ?_
      show s_Ek (s_rows 3 L xs) 1298 s_e179.1 4 [(0, .ref 0), (1, .int a), (2, .int b)] [.int 1] s_M0 _
      refine s_ek_bk 3 (P := 11) (ls' := [(0, .ref 0), (1, .int a), (2, .int b)]) (st' := [.int a, .ref 0]) (M' := s_M0) rfl ?_
      refine s_ek_call (ν := s_e176.1) (P := 14) (as := [.ref 0, .int a]) (r := []) (fun _ => rfl) rfl ?_
      show s_Ek (s_rows 3 L xs) 1297 s_e176.1 0 [(0, .ref 0), (1, .int a)] [] s_M0 _
      refine s_ek_bk 1 (P := 1) (ls' := [(0, .ref 0), (1, .int a)]) (st' := [.int a]) (M' := s_M0) rfl ?_
      refine s_ek_if1 (T := 22) rfl rfl (fun h3 => ?_) (fun h3 => ?_)
      · replace h3 : a.toInt < 0 := h3
        omega
      · replace h3 : ¬ (a.toInt < 0) := h3
        replace h3 : 0 ≤ a.toInt := by omega
        refine s_ek_bk 4 (P := 10) (ls' := [(0, .ref 0), (1, .int a)]) (st' := [.int 6, .int a]) (M' := s_M0) rfl ?_
        refine s_ek_if2 (T := 22) rfl rfl (fun h4 => ?_) (fun h4 => ?_)
        · replace h4 : 6 ≤ a.toInt := h4
          omega
        · replace h4 : ¬ (6 ≤ a.toInt) := h4
          replace h4 : a.toInt < 6 := by omega
          refine s_ek_bk 3 (P := 18) (ls' := [(0, .ref 0), (1, .int a)]) (st' := [.int a, .ref 135]) (M' := s_M0) rfl ?_
          rcases s_rg_0_5 (a := a) (by omega) (by omega) with rfl | rfl | rfl | rfl | rfl | rfl
          · refine s_ek_bk 6 (P := 33) (ls' := [(0, .ref 0), (1, .int 0)]) (st' := [.ref 139]) (M' := s_M0) rfl ?_
            refine s_ek_ret (o := some (.ref 139)) (fun _ => rfl) ?_
            show s_Ek (s_rows 3 L xs) 1298 s_e179.1 14 [(0, .ref 0), (1, .int 0), (2, .int b)] [.ref 139] s_M0 _
            refine s_ek_bk 2 (P := 16) (ls' := [(3, .ref 139), (0, .ref 0), (1, .int 0), (2, .int b)]) (st' := [.ref 139]) (M' := s_M0) rfl ?_
            refine s_ek_call (ν := s_e84.1) (P := 19) (as := [.ref 139]) (r := []) (fun _ => rfl) rfl ?_
            show s_Ek (s_rows 3 L xs) 1297 s_e84.1 0 [(0, .ref 139)] [] s_M0 _
            refine s_ek_bk 6 (P := 13) (ls' := [(0, .ref 139)]) (st' := [.int 1]) (M' := s_M0) rfl ?_
            refine s_ek_ret (o := some (.int 1)) (fun _ => rfl) ?_
            show s_Ek (s_rows 3 L xs) 1298 s_e179.1 19 [(3, .ref 139), (0, .ref 0), (1, .int 0), (2, .int b)] [.int 1] s_M0 _
            refine s_ek_bk 2 (P := 24) (ls' := [(3, .ref 139), (0, .ref 0), (1, .int 0), (2, .int b)]) (st' := [.int (-11)]) (M' := s_M0) rfl ?_
            refine s_ek_ret (o := some (.int (-11))) (fun _ => rfl) ?_
            show s_Ek (s_rows 3 L xs) 1299 s_e165.1 6 [(0, .ref 0), (1, .int 0), (2, .int b)] [.int (-11)] s_M0 _
            refine s_ek_bk 3 (P := 24) (ls' := [(0, .ref 0), (1, .int 0), (2, .int b)]) (st' := [.long (-9223372036854775808)]) (M' := s_M0) rfl ?_
            refine s_ek_ret (o := some (.long (-9223372036854775808))) (fun _ => rfl) ?_
            refine ⟨(-9223372036854775808), rfl, ?_⟩
            show s_Ek (s_rows 3 L xs) 1299 s_e286.1 0 [(0, .ref 151), (1, .int 0), (2, .int b)] [] s_M0 _
            refine s_ek_bk 3 (P := 3) (ls' := [(0, .ref 151), (1, .int 0), (2, .int b)]) (st' := [.int b, .int 0, .ref 151]) (M' := s_M0) rfl ?_
            refine s_ek_call (ν := s_e284.1) (P := 6) (as := [.ref 151, .int 0, .int b]) (r := []) (fun _ => rfl) rfl ?_
            show s_Ek (s_rows 3 L xs) 1298 s_e284.1 0 [(0, .ref 151), (1, .int 0), (2, .int b)] [] s_M0 _
            refine s_ek_bk 1 (P := 1) (ls' := [(0, .ref 151), (1, .int 0), (2, .int b)]) (st' := [.int 0]) (M' := s_M0) rfl ?_
            refine s_ek_call (ν := s_e281.1) (P := 4) (as := [.int 0]) (r := []) (fun _ => rfl) rfl ?_
            show s_Ek (s_rows 3 L xs) 1297 s_e281.1 0 [(0, .int 0)] [] s_M0 _
            refine s_ek_bk 3 (P := 3) (ls' := [(0, .int 0)]) (st' := [.int 5, .int 0, .int 0]) (M' := s_M0) rfl ?_
            refine s_ek_call (ν := s_e181.1) (P := 6) (as := [.int 0, .int 0, .int 5]) (r := []) (fun _ => rfl) rfl ?_
            show s_Ek (s_rows 3 L xs) 1296 s_e181.1 0 [(0, .int 0), (1, .int 0), (2, .int 5)] [] s_M0 _
            refine s_ek_bk 8 (P := 15) (ls' := [(0, .int 0), (1, .int 0), (2, .int 5)]) (st' := [.int 1]) (M' := s_M0) rfl ?_
            refine s_ek_ret (o := some (.int 1)) (fun _ => rfl) ?_
            show s_Ek (s_rows 3 L xs) 1297 s_e281.1 6 [(0, .int 0)] [.int 1] s_M0 _
            refine s_ek_ret (o := some (.int 1)) (fun _ => rfl) ?_
            show s_Ek (s_rows 3 L xs) 1298 s_e284.1 4 [(0, .ref 151), (1, .int 0), (2, .int b)] [.int 1] s_M0 _
            refine s_ek_bk 8 (P := 21) (ls' := [(0, .ref 151), (1, .int 0), (2, .int b)]) (st' := [.int (-11)]) (M' := s_M0) rfl ?_
            refine s_ek_ret (o := some (.int (-11))) (fun _ => rfl) ?_
            show s_Ek (s_rows 3 L xs) 1299 s_e286.1 6 [(0, .ref 151), (1, .int 0), (2, .int b)] [.int (-11)] s_M0 _
            refine s_ek_bk 3 (P := 26) (ls' := [(0, .ref 151), (1, .int 0), (2, .int b)]) (st' := [.long (-9223372036854775808)]) (M' := s_M0) rfl ?_
            refine s_ek_ret (o := some (.long (-9223372036854775808))) (fun _ => rfl) ?_
            exact rfl
          · refine s_ek_bk 6 (P := 33) (ls' := [(0, .ref 0), (1, .int 1)]) (st' := [.ref 141]) (M' := s_M0) rfl ?_
            refine s_ek_ret (o := some (.ref 141)) (fun _ => rfl) ?_
            show s_Ek (s_rows 3 L xs) 1298 s_e179.1 14 [(0, .ref 0), (1, .int 1), (2, .int b)] [.ref 141] s_M0 _
            refine s_ek_bk 2 (P := 16) (ls' := [(3, .ref 141), (0, .ref 0), (1, .int 1), (2, .int b)]) (st' := [.ref 141]) (M' := s_M0) rfl ?_
            refine s_ek_call (ν := s_e84.1) (P := 19) (as := [.ref 141]) (r := []) (fun _ => rfl) rfl ?_
            show s_Ek (s_rows 3 L xs) 1297 s_e84.1 0 [(0, .ref 141)] [] s_M0 _
            refine s_ek_bk 6 (P := 13) (ls' := [(0, .ref 141)]) (st' := [.int 1]) (M' := s_M0) rfl ?_
            refine s_ek_ret (o := some (.int 1)) (fun _ => rfl) ?_
            show s_Ek (s_rows 3 L xs) 1298 s_e179.1 19 [(3, .ref 141), (0, .ref 0), (1, .int 1), (2, .int b)] [.int 1] s_M0 _
            refine s_ek_bk 2 (P := 24) (ls' := [(3, .ref 141), (0, .ref 0), (1, .int 1), (2, .int b)]) (st' := [.int (-11)]) (M' := s_M0) rfl ?_
            refine s_ek_ret (o := some (.int (-11))) (fun _ => rfl) ?_
            show s_Ek (s_rows 3 L xs) 1299 s_e165.1 6 [(0, .ref 0), (1, .int 1), (2, .int b)] [.int (-11)] s_M0 _
            refine s_ek_bk 3 (P := 24) (ls' := [(0, .ref 0), (1, .int 1), (2, .int b)]) (st' := [.long (-9223372036854775808)]) (M' := s_M0) rfl ?_
            refine s_ek_ret (o := some (.long (-9223372036854775808))) (fun _ => rfl) ?_
            refine ⟨(-9223372036854775808), rfl, ?_⟩
            show s_Ek (s_rows 3 L xs) 1299 s_e286.1 0 [(0, .ref 151), (1, .int 1), (2, .int b)] [] s_M0 _
            refine s_ek_bk 3 (P := 3) (ls' := [(0, .ref 151), (1, .int 1), (2, .int b)]) (st' := [.int b, .int 1, .ref 151]) (M' := s_M0) rfl ?_
            refine s_ek_call (ν := s_e284.1) (P := 6) (as := [.ref 151, .int 1, .int b]) (r := []) (fun _ => rfl) rfl ?_
            show s_Ek (s_rows 3 L xs) 1298 s_e284.1 0 [(0, .ref 151), (1, .int 1), (2, .int b)] [] s_M0 _
            refine s_ek_bk 1 (P := 1) (ls' := [(0, .ref 151), (1, .int 1), (2, .int b)]) (st' := [.int 1]) (M' := s_M0) rfl ?_
            refine s_ek_call (ν := s_e281.1) (P := 4) (as := [.int 1]) (r := []) (fun _ => rfl) rfl ?_
            show s_Ek (s_rows 3 L xs) 1297 s_e281.1 0 [(0, .int 1)] [] s_M0 _
            refine s_ek_bk 3 (P := 3) (ls' := [(0, .int 1)]) (st' := [.int 5, .int 0, .int 1]) (M' := s_M0) rfl ?_
            refine s_ek_call (ν := s_e181.1) (P := 6) (as := [.int 1, .int 0, .int 5]) (r := []) (fun _ => rfl) rfl ?_
            show s_Ek (s_rows 3 L xs) 1296 s_e181.1 0 [(0, .int 1), (1, .int 0), (2, .int 5)] [] s_M0 _
            refine s_ek_bk 8 (P := 15) (ls' := [(0, .int 1), (1, .int 0), (2, .int 5)]) (st' := [.int 1]) (M' := s_M0) rfl ?_
            refine s_ek_ret (o := some (.int 1)) (fun _ => rfl) ?_
            show s_Ek (s_rows 3 L xs) 1297 s_e281.1 6 [(0, .int 1)] [.int 1] s_M0 _
            refine s_ek_ret (o := some (.int 1)) (fun _ => rfl) ?_
            show s_Ek (s_rows 3 L xs) 1298 s_e284.1 4 [(0, .ref 151), (1, .int 1), (2, .int b)] [.int 1] s_M0 _
            refine s_ek_bk 8 (P := 21) (ls' := [(0, .ref 151), (1, .int 1), (2, .int b)]) (st' := [.int (-11)]) (M' := s_M0) rfl ?_
            refine s_ek_ret (o := some (.int (-11))) (fun _ => rfl) ?_
            show s_Ek (s_rows 3 L xs) 1299 s_e286.1 6 [(0, .ref 151), (1, .int 1), (2, .int b)] [.int (-11)] s_M0 _
            refine s_ek_bk 3 (P := 26) (ls' := [(0, .ref 151), (1, .int 1), (2, .int b)]) (st' := [.long (-9223372036854775808)]) (M' := s_M0) rfl ?_
            refine s_ek_ret (o := some (.long (-9223372036854775808))) (fun _ => rfl) ?_
            exact rfl
          · refine s_ek_bk 6 (P := 33) (ls' := [(0, .ref 0), (1, .int 2)]) (st' := [.ref 143]) (M' := s_M0) rfl ?_
            refine s_ek_ret (o := some (.ref 143)) (fun _ => rfl) ?_
            show s_Ek (s_rows 3 L xs) 1298 s_e179.1 14 [(0, .ref 0), (1, .int 2), (2, .int b)] [.ref 143] s_M0 _
            refine s_ek_bk 2 (P := 16) (ls' := [(3, .ref 143), (0, .ref 0), (1, .int 2), (2, .int b)]) (st' := [.ref 143]) (M' := s_M0) rfl ?_
            refine s_ek_call (ν := s_e84.1) (P := 19) (as := [.ref 143]) (r := []) (fun _ => rfl) rfl ?_
            show s_Ek (s_rows 3 L xs) 1297 s_e84.1 0 [(0, .ref 143)] [] s_M0 _
            refine s_ek_bk 6 (P := 13) (ls' := [(0, .ref 143)]) (st' := [.int 1]) (M' := s_M0) rfl ?_
            refine s_ek_ret (o := some (.int 1)) (fun _ => rfl) ?_
            show s_Ek (s_rows 3 L xs) 1298 s_e179.1 19 [(3, .ref 143), (0, .ref 0), (1, .int 2), (2, .int b)] [.int 1] s_M0 _
            refine s_ek_bk 2 (P := 24) (ls' := [(3, .ref 143), (0, .ref 0), (1, .int 2), (2, .int b)]) (st' := [.int (-11)]) (M' := s_M0) rfl ?_
            refine s_ek_ret (o := some (.int (-11))) (fun _ => rfl) ?_
            show s_Ek (s_rows 3 L xs) 1299 s_e165.1 6 [(0, .ref 0), (1, .int 2), (2, .int b)] [.int (-11)] s_M0 _
            refine s_ek_bk 3 (P := 24) (ls' := [(0, .ref 0), (1, .int 2), (2, .int b)]) (st' := [.long (-9223372036854775808)]) (M' := s_M0) rfl ?_
            refine s_ek_ret (o := some (.long (-9223372036854775808))) (fun _ => rfl) ?_
            refine ⟨(-9223372036854775808), rfl, ?_⟩
            show s_Ek (s_rows 3 L xs) 1299 s_e286.1 0 [(0, .ref 151), (1, .int 2), (2, .int b)] [] s_M0 _
            refine s_ek_bk 3 (P := 3) (ls' := [(0, .ref 151), (1, .int 2), (2, .int b)]) (st' := [.int b, .int 2, .ref 151]) (M' := s_M0) rfl ?_
            refine s_ek_call (ν := s_e284.1) (P := 6) (as := [.ref 151, .int 2, .int b]) (r := []) (fun _ => rfl) rfl ?_
            show s_Ek (s_rows 3 L xs) 1298 s_e284.1 0 [(0, .ref 151), (1, .int 2), (2, .int b)] [] s_M0 _
            refine s_ek_bk 1 (P := 1) (ls' := [(0, .ref 151), (1, .int 2), (2, .int b)]) (st' := [.int 2]) (M' := s_M0) rfl ?_
            refine s_ek_call (ν := s_e281.1) (P := 4) (as := [.int 2]) (r := []) (fun _ => rfl) rfl ?_
            show s_Ek (s_rows 3 L xs) 1297 s_e281.1 0 [(0, .int 2)] [] s_M0 _
            refine s_ek_bk 3 (P := 3) (ls' := [(0, .int 2)]) (st' := [.int 5, .int 0, .int 2]) (M' := s_M0) rfl ?_
            refine s_ek_call (ν := s_e181.1) (P := 6) (as := [.int 2, .int 0, .int 5]) (r := []) (fun _ => rfl) rfl ?_
            show s_Ek (s_rows 3 L xs) 1296 s_e181.1 0 [(0, .int 2), (1, .int 0), (2, .int 5)] [] s_M0 _
            refine s_ek_bk 8 (P := 15) (ls' := [(0, .int 2), (1, .int 0), (2, .int 5)]) (st' := [.int 1]) (M' := s_M0) rfl ?_
            refine s_ek_ret (o := some (.int 1)) (fun _ => rfl) ?_
            show s_Ek (s_rows 3 L xs) 1297 s_e281.1 6 [(0, .int 2)] [.int 1] s_M0 _
            refine s_ek_ret (o := some (.int 1)) (fun _ => rfl) ?_
            show s_Ek (s_rows 3 L xs) 1298 s_e284.1 4 [(0, .ref 151), (1, .int 2), (2, .int b)] [.int 1] s_M0 _
            refine s_ek_bk 8 (P := 21) (ls' := [(0, .ref 151), (1, .int 2), (2, .int b)]) (st' := [.int (-11)]) (M' := s_M0) rfl ?_
            refine s_ek_ret (o := some (.int (-11))) (fun _ => rfl) ?_
            show s_Ek (s_rows 3 L xs) 1299 s_e286.1 6 [(0, .ref 151), (1, .int 2), (2, .int b)] [.int (-11)] s_M0 _
            refine s_ek_bk 3 (P := 26) (ls' := [(0, .ref 151), (1, .int 2), (2, .int b)]) (st' := [.long (-9223372036854775808)]) (M' := s_M0) rfl ?_
            refine s_ek_ret (o := some (.long (-9223372036854775808))) (fun _ => rfl) ?_
            exact rfl
          · refine s_ek_bk 6 (P := 33) (ls' := [(0, .ref 0), (1, .int 3)]) (st' := [.ref 145]) (M' := s_M0) rfl ?_
            refine s_ek_ret (o := some (.ref 145)) (fun _ => rfl) ?_
            show s_Ek (s_rows 3 L xs) 1298 s_e179.1 14 [(0, .ref 0), (1, .int 3), (2, .int b)] [.ref 145] s_M0 _
            refine s_ek_bk 2 (P := 16) (ls' := [(3, .ref 145), (0, .ref 0), (1, .int 3), (2, .int b)]) (st' := [.ref 145]) (M' := s_M0) rfl ?_
            refine s_ek_call (ν := s_e84.1) (P := 19) (as := [.ref 145]) (r := []) (fun _ => rfl) rfl ?_
            show s_Ek (s_rows 3 L xs) 1297 s_e84.1 0 [(0, .ref 145)] [] s_M0 _
            refine s_ek_bk 6 (P := 13) (ls' := [(0, .ref 145)]) (st' := [.int 1]) (M' := s_M0) rfl ?_
            refine s_ek_ret (o := some (.int 1)) (fun _ => rfl) ?_
            show s_Ek (s_rows 3 L xs) 1298 s_e179.1 19 [(3, .ref 145), (0, .ref 0), (1, .int 3), (2, .int b)] [.int 1] s_M0 _
            refine s_ek_bk 2 (P := 24) (ls' := [(3, .ref 145), (0, .ref 0), (1, .int 3), (2, .int b)]) (st' := [.int (-11)]) (M' := s_M0) rfl ?_
            refine s_ek_ret (o := some (.int (-11))) (fun _ => rfl) ?_
            show s_Ek (s_rows 3 L xs) 1299 s_e165.1 6 [(0, .ref 0), (1, .int 3), (2, .int b)] [.int (-11)] s_M0 _
            refine s_ek_bk 3 (P := 24) (ls' := [(0, .ref 0), (1, .int 3), (2, .int b)]) (st' := [.long (-9223372036854775808)]) (M' := s_M0) rfl ?_
            refine s_ek_ret (o := some (.long (-9223372036854775808))) (fun _ => rfl) ?_
            refine ⟨(-9223372036854775808), rfl, ?_⟩
            show s_Ek (s_rows 3 L xs) 1299 s_e286.1 0 [(0, .ref 151), (1, .int 3), (2, .int b)] [] s_M0 _
            refine s_ek_bk 3 (P := 3) (ls' := [(0, .ref 151), (1, .int 3), (2, .int b)]) (st' := [.int b, .int 3, .ref 151]) (M' := s_M0) rfl ?_
            refine s_ek_call (ν := s_e284.1) (P := 6) (as := [.ref 151, .int 3, .int b]) (r := []) (fun _ => rfl) rfl ?_
            show s_Ek (s_rows 3 L xs) 1298 s_e284.1 0 [(0, .ref 151), (1, .int 3), (2, .int b)] [] s_M0 _
            refine s_ek_bk 1 (P := 1) (ls' := [(0, .ref 151), (1, .int 3), (2, .int b)]) (st' := [.int 3]) (M' := s_M0) rfl ?_
            refine s_ek_call (ν := s_e281.1) (P := 4) (as := [.int 3]) (r := []) (fun _ => rfl) rfl ?_
            show s_Ek (s_rows 3 L xs) 1297 s_e281.1 0 [(0, .int 3)] [] s_M0 _
            refine s_ek_bk 3 (P := 3) (ls' := [(0, .int 3)]) (st' := [.int 5, .int 0, .int 3]) (M' := s_M0) rfl ?_
            refine s_ek_call (ν := s_e181.1) (P := 6) (as := [.int 3, .int 0, .int 5]) (r := []) (fun _ => rfl) rfl ?_
            show s_Ek (s_rows 3 L xs) 1296 s_e181.1 0 [(0, .int 3), (1, .int 0), (2, .int 5)] [] s_M0 _
            refine s_ek_bk 8 (P := 15) (ls' := [(0, .int 3), (1, .int 0), (2, .int 5)]) (st' := [.int 1]) (M' := s_M0) rfl ?_
            refine s_ek_ret (o := some (.int 1)) (fun _ => rfl) ?_
            show s_Ek (s_rows 3 L xs) 1297 s_e281.1 6 [(0, .int 3)] [.int 1] s_M0 _
            refine s_ek_ret (o := some (.int 1)) (fun _ => rfl) ?_
            show s_Ek (s_rows 3 L xs) 1298 s_e284.1 4 [(0, .ref 151), (1, .int 3), (2, .int b)] [.int 1] s_M0 _
            refine s_ek_bk 8 (P := 21) (ls' := [(0, .ref 151), (1, .int 3), (2, .int b)]) (st' := [.int (-11)]) (M' := s_M0) rfl ?_
            refine s_ek_ret (o := some (.int (-11))) (fun _ => rfl) ?_
            show s_Ek (s_rows 3 L xs) 1299 s_e286.1 6 [(0, .ref 151), (1, .int 3), (2, .int b)] [.int (-11)] s_M0 _
            refine s_ek_bk 3 (P := 26) (ls' := [(0, .ref 151), (1, .int 3), (2, .int b)]) (st' := [.long (-9223372036854775808)]) (M' := s_M0) rfl ?_
            refine s_ek_ret (o := some (.long (-9223372036854775808))) (fun _ => rfl) ?_
            exact rfl
          · refine s_ek_bk 6 (P := 33) (ls' := [(0, .ref 0), (1, .int 4)]) (st' := [.ref 147]) (M' := s_M0) rfl ?_
            refine s_ek_ret (o := some (.ref 147)) (fun _ => rfl) ?_
            show s_Ek (s_rows 3 L xs) 1298 s_e179.1 14 [(0, .ref 0), (1, .int 4), (2, .int b)] [.ref 147] s_M0 _
            refine s_ek_bk 2 (P := 16) (ls' := [(3, .ref 147), (0, .ref 0), (1, .int 4), (2, .int b)]) (st' := [.ref 147]) (M' := s_M0) rfl ?_
            refine s_ek_call (ν := s_e84.1) (P := 19) (as := [.ref 147]) (r := []) (fun _ => rfl) rfl ?_
            show s_Ek (s_rows 3 L xs) 1297 s_e84.1 0 [(0, .ref 147)] [] s_M0 _
            refine s_ek_bk 6 (P := 13) (ls' := [(0, .ref 147)]) (st' := [.int 1]) (M' := s_M0) rfl ?_
            refine s_ek_ret (o := some (.int 1)) (fun _ => rfl) ?_
            show s_Ek (s_rows 3 L xs) 1298 s_e179.1 19 [(3, .ref 147), (0, .ref 0), (1, .int 4), (2, .int b)] [.int 1] s_M0 _
            refine s_ek_bk 2 (P := 24) (ls' := [(3, .ref 147), (0, .ref 0), (1, .int 4), (2, .int b)]) (st' := [.int (-11)]) (M' := s_M0) rfl ?_
            refine s_ek_ret (o := some (.int (-11))) (fun _ => rfl) ?_
            show s_Ek (s_rows 3 L xs) 1299 s_e165.1 6 [(0, .ref 0), (1, .int 4), (2, .int b)] [.int (-11)] s_M0 _
            refine s_ek_bk 3 (P := 24) (ls' := [(0, .ref 0), (1, .int 4), (2, .int b)]) (st' := [.long (-9223372036854775808)]) (M' := s_M0) rfl ?_
            refine s_ek_ret (o := some (.long (-9223372036854775808))) (fun _ => rfl) ?_
            refine ⟨(-9223372036854775808), rfl, ?_⟩
            show s_Ek (s_rows 3 L xs) 1299 s_e286.1 0 [(0, .ref 151), (1, .int 4), (2, .int b)] [] s_M0 _
            refine s_ek_bk 3 (P := 3) (ls' := [(0, .ref 151), (1, .int 4), (2, .int b)]) (st' := [.int b, .int 4, .ref 151]) (M' := s_M0) rfl ?_
            refine s_ek_call (ν := s_e284.1) (P := 6) (as := [.ref 151, .int 4, .int b]) (r := []) (fun _ => rfl) rfl ?_
            show s_Ek (s_rows 3 L xs) 1298 s_e284.1 0 [(0, .ref 151), (1, .int 4), (2, .int b)] [] s_M0 _
            refine s_ek_bk 1 (P := 1) (ls' := [(0, .ref 151), (1, .int 4), (2, .int b)]) (st' := [.int 4]) (M' := s_M0) rfl ?_
            refine s_ek_call (ν := s_e281.1) (P := 4) (as := [.int 4]) (r := []) (fun _ => rfl) rfl ?_
            show s_Ek (s_rows 3 L xs) 1297 s_e281.1 0 [(0, .int 4)] [] s_M0 _
            refine s_ek_bk 3 (P := 3) (ls' := [(0, .int 4)]) (st' := [.int 5, .int 0, .int 4]) (M' := s_M0) rfl ?_
            refine s_ek_call (ν := s_e181.1) (P := 6) (as := [.int 4, .int 0, .int 5]) (r := []) (fun _ => rfl) rfl ?_
            show s_Ek (s_rows 3 L xs) 1296 s_e181.1 0 [(0, .int 4), (1, .int 0), (2, .int 5)] [] s_M0 _
            refine s_ek_bk 8 (P := 15) (ls' := [(0, .int 4), (1, .int 0), (2, .int 5)]) (st' := [.int 1]) (M' := s_M0) rfl ?_
            refine s_ek_ret (o := some (.int 1)) (fun _ => rfl) ?_
            show s_Ek (s_rows 3 L xs) 1297 s_e281.1 6 [(0, .int 4)] [.int 1] s_M0 _
            refine s_ek_ret (o := some (.int 1)) (fun _ => rfl) ?_
            show s_Ek (s_rows 3 L xs) 1298 s_e284.1 4 [(0, .ref 151), (1, .int 4), (2, .int b)] [.int 1] s_M0 _
            refine s_ek_bk 8 (P := 21) (ls' := [(0, .ref 151), (1, .int 4), (2, .int b)]) (st' := [.int (-11)]) (M' := s_M0) rfl ?_
            refine s_ek_ret (o := some (.int (-11))) (fun _ => rfl) ?_
            show s_Ek (s_rows 3 L xs) 1299 s_e286.1 6 [(0, .ref 151), (1, .int 4), (2, .int b)] [.int (-11)] s_M0 _
            refine s_ek_bk 3 (P := 26) (ls' := [(0, .ref 151), (1, .int 4), (2, .int b)]) (st' := [.long (-9223372036854775808)]) (M' := s_M0) rfl ?_
            refine s_ek_ret (o := some (.long (-9223372036854775808))) (fun _ => rfl) ?_
            exact rfl
          · refine s_ek_bk 6 (P := 33) (ls' := [(0, .ref 0), (1, .int 5)]) (st' := [.ref 149]) (M' := s_M0) rfl ?_
            refine s_ek_ret (o := some (.ref 149)) (fun _ => rfl) ?_
            show s_Ek (s_rows 3 L xs) 1298 s_e179.1 14 [(0, .ref 0), (1, .int 5), (2, .int b)] [.ref 149] s_M0 _
            refine s_ek_bk 2 (P := 16) (ls' := [(3, .ref 149), (0, .ref 0), (1, .int 5), (2, .int b)]) (st' := [.ref 149]) (M' := s_M0) rfl ?_
            refine s_ek_call (ν := s_e84.1) (P := 19) (as := [.ref 149]) (r := []) (fun _ => rfl) rfl ?_
            show s_Ek (s_rows 3 L xs) 1297 s_e84.1 0 [(0, .ref 149)] [] s_M0 _
            refine s_ek_bk 6 (P := 13) (ls' := [(0, .ref 149)]) (st' := [.int 1]) (M' := s_M0) rfl ?_
            refine s_ek_ret (o := some (.int 1)) (fun _ => rfl) ?_
            show s_Ek (s_rows 3 L xs) 1298 s_e179.1 19 [(3, .ref 149), (0, .ref 0), (1, .int 5), (2, .int b)] [.int 1] s_M0 _
            refine s_ek_bk 2 (P := 24) (ls' := [(3, .ref 149), (0, .ref 0), (1, .int 5), (2, .int b)]) (st' := [.int (-11)]) (M' := s_M0) rfl ?_
            refine s_ek_ret (o := some (.int (-11))) (fun _ => rfl) ?_
            show s_Ek (s_rows 3 L xs) 1299 s_e165.1 6 [(0, .ref 0), (1, .int 5), (2, .int b)] [.int (-11)] s_M0 _
            refine s_ek_bk 3 (P := 24) (ls' := [(0, .ref 0), (1, .int 5), (2, .int b)]) (st' := [.long (-9223372036854775808)]) (M' := s_M0) rfl ?_
            refine s_ek_ret (o := some (.long (-9223372036854775808))) (fun _ => rfl) ?_
            refine ⟨(-9223372036854775808), rfl, ?_⟩
            show s_Ek (s_rows 3 L xs) 1299 s_e286.1 0 [(0, .ref 151), (1, .int 5), (2, .int b)] [] s_M0 _
            refine s_ek_bk 3 (P := 3) (ls' := [(0, .ref 151), (1, .int 5), (2, .int b)]) (st' := [.int b, .int 5, .ref 151]) (M' := s_M0) rfl ?_
            refine s_ek_call (ν := s_e284.1) (P := 6) (as := [.ref 151, .int 5, .int b]) (r := []) (fun _ => rfl) rfl ?_
            show s_Ek (s_rows 3 L xs) 1298 s_e284.1 0 [(0, .ref 151), (1, .int 5), (2, .int b)] [] s_M0 _
            refine s_ek_bk 1 (P := 1) (ls' := [(0, .ref 151), (1, .int 5), (2, .int b)]) (st' := [.int 5]) (M' := s_M0) rfl ?_
            refine s_ek_call (ν := s_e281.1) (P := 4) (as := [.int 5]) (r := []) (fun _ => rfl) rfl ?_
            show s_Ek (s_rows 3 L xs) 1297 s_e281.1 0 [(0, .int 5)] [] s_M0 _
            refine s_ek_bk 3 (P := 3) (ls' := [(0, .int 5)]) (st' := [.int 5, .int 0, .int 5]) (M' := s_M0) rfl ?_
            refine s_ek_call (ν := s_e181.1) (P := 6) (as := [.int 5, .int 0, .int 5]) (r := []) (fun _ => rfl) rfl ?_
            show s_Ek (s_rows 3 L xs) 1296 s_e181.1 0 [(0, .int 5), (1, .int 0), (2, .int 5)] [] s_M0 _
            refine s_ek_bk 8 (P := 15) (ls' := [(0, .int 5), (1, .int 0), (2, .int 5)]) (st' := [.int 1]) (M' := s_M0) rfl ?_
            refine s_ek_ret (o := some (.int 1)) (fun _ => rfl) ?_
            show s_Ek (s_rows 3 L xs) 1297 s_e281.1 6 [(0, .int 5)] [.int 1] s_M0 _
            refine s_ek_ret (o := some (.int 1)) (fun _ => rfl) ?_
            show s_Ek (s_rows 3 L xs) 1298 s_e284.1 4 [(0, .ref 151), (1, .int 5), (2, .int b)] [.int 1] s_M0 _
            refine s_ek_bk 8 (P := 21) (ls' := [(0, .ref 151), (1, .int 5), (2, .int b)]) (st' := [.int (-11)]) (M' := s_M0) rfl ?_
            refine s_ek_ret (o := some (.int (-11))) (fun _ => rfl) ?_
            show s_Ek (s_rows 3 L xs) 1299 s_e286.1 6 [(0, .ref 151), (1, .int 5), (2, .int b)] [.int (-11)] s_M0 _
            refine s_ek_bk 3 (P := 26) (ls' := [(0, .ref 151), (1, .int 5), (2, .int b)]) (st' := [.long (-9223372036854775808)]) (M' := s_M0) rfl ?_
            refine s_ek_ret (o := some (.long (-9223372036854775808))) (fun _ => rfl) ?_
            exact rfl
set_option maxHeartbeats 20000000 in
set_option maxRecDepth 100000 in
theorem s_op_taken (L : Nat) (xs : Nat → Int32) (a : Int32) (b : Int32) : s_Ek (s_rows 3 L xs) 1299 s_e167.1 0 (lv_args 0 [.ref 0, .int a, .int b]) [] s_M0 (fun v M1 => ∃ r : Int32, v = some (.int r) ∧ s_Ek (s_rows 3 L xs) 1299 s_e288.1 0 (lv_args 0 [.ref 151, .int a, .int b]) [] M1 (fun w _ => w = some (.int r))) := by
  show s_Ek (s_rows 3 L xs) 1299 s_e167.1 0 [(0, .ref 0), (1, .int a), (2, .int b)] [] s_M0 _
  refine s_ek_bk 1 (P := 1) (ls' := [(0, .ref 0), (1, .int a), (2, .int b)]) (st' := [.int a]) (M' := s_M0) rfl ?_
  refine s_ek_call (ν := s_e175.1) (P := 4) (as := [.int a]) (r := []) (fun _ => rfl) rfl ?_
  show s_Ek (s_rows 3 L xs) 1298 s_e175.1 0 [(0, .int a)] [] s_M0 _
  refine s_ek_bk 1 (P := 1) (ls' := [(0, .int a)]) (st' := [.int a]) (M' := s_M0) rfl ?_
  refine s_ek_if1 (T := 14) rfl rfl (fun h1 => ?_) (fun h1 => ?_)
  · replace h1 : a.toInt < 0 := h1
    refine s_ek_bk 1 (P := 15) (ls' := [(0, .int a)]) (st' := [.int 0]) (M' := s_M0) rfl ?_
    refine s_ek_ret (o := some (.int 0)) (fun _ => rfl) ?_
    show s_Ek (s_rows 3 L xs) 1299 s_e167.1 4 [(0, .ref 0), (1, .int a), (2, .int b)] [.int 0] s_M0 _
    refine s_ek_bk 2 (P := 15) (ls' := [(0, .ref 0), (1, .int a), (2, .int b)]) (st' := [.int (-1)]) (M' := s_M0) rfl ?_
    refine s_ek_ret (o := some (.int (-1))) (fun _ => rfl) ?_
    refine ⟨(-1), rfl, ?_⟩
    show s_Ek (s_rows 3 L xs) 1299 s_e288.1 0 [(0, .ref 151), (1, .int a), (2, .int b)] [] s_M0 _
    refine s_ek_bk 1 (P := 1) (ls' := [(0, .ref 151), (1, .int a), (2, .int b)]) (st' := [.int a]) (M' := s_M0) rfl ?_
    refine s_ek_call (ν := s_e281.1) (P := 4) (as := [.int a]) (r := []) (fun _ => rfl) rfl ?_
    show s_Ek (s_rows 3 L xs) 1298 s_e281.1 0 [(0, .int a)] [] s_M0 _
    refine s_ek_bk 3 (P := 3) (ls' := [(0, .int a)]) (st' := [.int 5, .int 0, .int a]) (M' := s_M0) rfl ?_
    refine s_ek_call (ν := s_e181.1) (P := 6) (as := [.int a, .int 0, .int 5]) (r := []) (fun _ => rfl) rfl ?_
    show s_Ek (s_rows 3 L xs) 1297 s_e181.1 0 [(0, .int a), (1, .int 0), (2, .int 5)] [] s_M0 _
    refine s_ek_bk 2 (P := 2) (ls' := [(0, .int a), (1, .int 0), (2, .int 5)]) (st' := [.int 0, .int a]) (M' := s_M0) rfl ?_
    refine s_ek_if2 (T := 14) rfl rfl (fun h2 => ?_) (fun h2 => ?_)
    · replace h2 : a.toInt < 0 := h2
      refine s_ek_bk 1 (P := 15) (ls' := [(0, .int a), (1, .int 0), (2, .int 5)]) (st' := [.int 0]) (M' := s_M0) rfl ?_
      refine s_ek_ret (o := some (.int 0)) (fun _ => rfl) ?_
      show s_Ek (s_rows 3 L xs) 1298 s_e281.1 6 [(0, .int a)] [.int 0] s_M0 _
      refine s_ek_ret (o := some (.int 0)) (fun _ => rfl) ?_
      show s_Ek (s_rows 3 L xs) 1299 s_e288.1 4 [(0, .ref 151), (1, .int a), (2, .int b)] [.int 0] s_M0 _
      refine s_ek_bk 2 (P := 18) (ls' := [(0, .ref 151), (1, .int a), (2, .int b)]) (st' := [.int (-1)]) (M' := s_M0) rfl ?_
      refine s_ek_ret (o := some (.int (-1))) (fun _ => rfl) ?_
      exact rfl
    · replace h2 : ¬ (a.toInt < 0) := h2
      replace h2 : 0 ≤ a.toInt := by omega
      omega
  · replace h1 : ¬ (a.toInt < 0) := h1
    replace h1 : 0 ≤ a.toInt := by omega
    refine s_ek_bk 2 (P := 7) (ls' := [(0, .int a)]) (st' := [.int 6, .int a]) (M' := s_M0) rfl ?_
    refine s_ek_if2 (T := 14) rfl rfl (fun h2 => ?_) (fun h2 => ?_)
    · replace h2 : 6 ≤ a.toInt := h2
      refine s_ek_bk 1 (P := 15) (ls' := [(0, .int a)]) (st' := [.int 0]) (M' := s_M0) rfl ?_
      refine s_ek_ret (o := some (.int 0)) (fun _ => rfl) ?_
      show s_Ek (s_rows 3 L xs) 1299 s_e167.1 4 [(0, .ref 0), (1, .int a), (2, .int b)] [.int 0] s_M0 _
      refine s_ek_bk 2 (P := 15) (ls' := [(0, .ref 0), (1, .int a), (2, .int b)]) (st' := [.int (-1)]) (M' := s_M0) rfl ?_
      refine s_ek_ret (o := some (.int (-1))) (fun _ => rfl) ?_
      refine ⟨(-1), rfl, ?_⟩
      show s_Ek (s_rows 3 L xs) 1299 s_e288.1 0 [(0, .ref 151), (1, .int a), (2, .int b)] [] s_M0 _
      refine s_ek_bk 1 (P := 1) (ls' := [(0, .ref 151), (1, .int a), (2, .int b)]) (st' := [.int a]) (M' := s_M0) rfl ?_
      refine s_ek_call (ν := s_e281.1) (P := 4) (as := [.int a]) (r := []) (fun _ => rfl) rfl ?_
      show s_Ek (s_rows 3 L xs) 1298 s_e281.1 0 [(0, .int a)] [] s_M0 _
      refine s_ek_bk 3 (P := 3) (ls' := [(0, .int a)]) (st' := [.int 5, .int 0, .int a]) (M' := s_M0) rfl ?_
      refine s_ek_call (ν := s_e181.1) (P := 6) (as := [.int a, .int 0, .int 5]) (r := []) (fun _ => rfl) rfl ?_
      show s_Ek (s_rows 3 L xs) 1297 s_e181.1 0 [(0, .int a), (1, .int 0), (2, .int 5)] [] s_M0 _
      refine s_ek_bk 2 (P := 2) (ls' := [(0, .int a), (1, .int 0), (2, .int 5)]) (st' := [.int 0, .int a]) (M' := s_M0) rfl ?_
      refine s_ek_if2 (T := 14) rfl rfl (fun h3 => ?_) (fun h3 => ?_)
      · replace h3 : a.toInt < 0 := h3
        omega
      · replace h3 : ¬ (a.toInt < 0) := h3
        replace h3 : 0 ≤ a.toInt := by omega
        refine s_ek_bk 2 (P := 7) (ls' := [(0, .int a), (1, .int 0), (2, .int 5)]) (st' := [.int 5, .int a]) (M' := s_M0) rfl ?_
        refine s_ek_if2 (T := 14) rfl rfl (fun h4 => ?_) (fun h4 => ?_)
        · replace h4 : 5 < a.toInt := h4
          refine s_ek_bk 1 (P := 15) (ls' := [(0, .int a), (1, .int 0), (2, .int 5)]) (st' := [.int 0]) (M' := s_M0) rfl ?_
          refine s_ek_ret (o := some (.int 0)) (fun _ => rfl) ?_
          show s_Ek (s_rows 3 L xs) 1298 s_e281.1 6 [(0, .int a)] [.int 0] s_M0 _
          refine s_ek_ret (o := some (.int 0)) (fun _ => rfl) ?_
          show s_Ek (s_rows 3 L xs) 1299 s_e288.1 4 [(0, .ref 151), (1, .int a), (2, .int b)] [.int 0] s_M0 _
          refine s_ek_bk 2 (P := 18) (ls' := [(0, .ref 151), (1, .int a), (2, .int b)]) (st' := [.int (-1)]) (M' := s_M0) rfl ?_
          refine s_ek_ret (o := some (.int (-1))) (fun _ => rfl) ?_
          exact rfl
        · replace h4 : ¬ (5 < a.toInt) := h4
          replace h4 : a.toInt ≤ 5 := by omega
          omega
    · replace h2 : ¬ (6 ≤ a.toInt) := h2
      replace h2 : a.toInt < 6 := by omega
      refine s_ek_bk 2 (P := 15) (ls' := [(0, .int a)]) (st' := [.int 1]) (M' := s_M0) rfl ?_
      refine s_ek_ret (o := some (.int 1)) (fun _ => rfl) ?_
      show s_Ek (s_rows 3 L xs) 1299 s_e167.1 4 [(0, .ref 0), (1, .int a), (2, .int b)] [.int 1] s_M0 _
      refine s_ek_bk 2 (P := 8) (ls' := [(0, .ref 0), (1, .int a), (2, .int b)]) (st' := [.int b]) (M' := s_M0) rfl ?_
      refine s_ek_call (ν := s_e25.1) (P := 11) (as := [.int b]) (r := []) (fun _ => rfl) rfl ?_
      show s_Ek (s_rows 3 L xs) 1298 s_e25.1 0 [(0, .int b)] [] s_M0 _
      refine s_ek_bk 1 (P := 1) (ls' := [(0, .int b)]) (st' := [.int b]) (M' := s_M0) rfl ?_
      refine s_ek_if1 (T := 14) rfl rfl (fun h3 => ?_) (fun h3 => ?_)
      · replace h3 : b.toInt < 0 := h3
        refine s_ek_bk 1 (P := 15) (ls' := [(0, .int b)]) (st' := [.int 0]) (M' := s_M0) rfl ?_
        refine s_ek_ret (o := some (.int 0)) (fun _ => rfl) ?_
        show s_Ek (s_rows 3 L xs) 1299 s_e167.1 11 [(0, .ref 0), (1, .int a), (2, .int b)] [.int 0] s_M0 _
        refine s_ek_bk 2 (P := 15) (ls' := [(0, .ref 0), (1, .int a), (2, .int b)]) (st' := [.int (-1)]) (M' := s_M0) rfl ?_
        refine s_ek_ret (o := some (.int (-1))) (fun _ => rfl) ?_
        refine ⟨(-1), rfl, ?_⟩
        show s_Ek (s_rows 3 L xs) 1299 s_e288.1 0 [(0, .ref 151), (1, .int a), (2, .int b)] [] s_M0 _
        refine s_ek_bk 1 (P := 1) (ls' := [(0, .ref 151), (1, .int a), (2, .int b)]) (st' := [.int a]) (M' := s_M0) rfl ?_
        refine s_ek_call (ν := s_e281.1) (P := 4) (as := [.int a]) (r := []) (fun _ => rfl) rfl ?_
        show s_Ek (s_rows 3 L xs) 1298 s_e281.1 0 [(0, .int a)] [] s_M0 _
        refine s_ek_bk 3 (P := 3) (ls' := [(0, .int a)]) (st' := [.int 5, .int 0, .int a]) (M' := s_M0) rfl ?_
        refine s_ek_call (ν := s_e181.1) (P := 6) (as := [.int a, .int 0, .int 5]) (r := []) (fun _ => rfl) rfl ?_
        show s_Ek (s_rows 3 L xs) 1297 s_e181.1 0 [(0, .int a), (1, .int 0), (2, .int 5)] [] s_M0 _
        refine s_ek_bk 2 (P := 2) (ls' := [(0, .int a), (1, .int 0), (2, .int 5)]) (st' := [.int 0, .int a]) (M' := s_M0) rfl ?_
        refine s_ek_if2 (T := 14) rfl rfl (fun h4 => ?_) (fun h4 => ?_)
        · replace h4 : a.toInt < 0 := h4
          omega
        · replace h4 : ¬ (a.toInt < 0) := h4
          replace h4 : 0 ≤ a.toInt := by omega
          refine s_ek_bk 2 (P := 7) (ls' := [(0, .int a), (1, .int 0), (2, .int 5)]) (st' := [.int 5, .int a]) (M' := s_M0) rfl ?_
          refine s_ek_if2 (T := 14) rfl rfl (fun h5 => ?_) (fun h5 => ?_)
          · replace h5 : 5 < a.toInt := h5
            omega
          · replace h5 : ¬ (5 < a.toInt) := h5
            replace h5 : a.toInt ≤ 5 := by omega
            refine s_ek_bk 2 (P := 15) (ls' := [(0, .int a), (1, .int 0), (2, .int 5)]) (st' := [.int 1]) (M' := s_M0) rfl ?_
            refine s_ek_ret (o := some (.int 1)) (fun _ => rfl) ?_
            show s_Ek (s_rows 3 L xs) 1298 s_e281.1 6 [(0, .int a)] [.int 1] s_M0 _
            refine s_ek_ret (o := some (.int 1)) (fun _ => rfl) ?_
            show s_Ek (s_rows 3 L xs) 1299 s_e288.1 4 [(0, .ref 151), (1, .int a), (2, .int b)] [.int 1] s_M0 _
            refine s_ek_bk 4 (P := 11) (ls' := [(0, .ref 151), (1, .int a), (2, .int b)]) (st' := [.int 7, .int 0, .int b]) (M' := s_M0) rfl ?_
            refine s_ek_call (ν := s_e181.1) (P := 14) (as := [.int b, .int 0, .int 7]) (r := []) (fun _ => rfl) rfl ?_
            show s_Ek (s_rows 3 L xs) 1298 s_e181.1 0 [(0, .int b), (1, .int 0), (2, .int 7)] [] s_M0 _
            refine s_ek_bk 2 (P := 2) (ls' := [(0, .int b), (1, .int 0), (2, .int 7)]) (st' := [.int 0, .int b]) (M' := s_M0) rfl ?_
            refine s_ek_if2 (T := 14) rfl rfl (fun h6 => ?_) (fun h6 => ?_)
            · replace h6 : b.toInt < 0 := h6
              refine s_ek_bk 1 (P := 15) (ls' := [(0, .int b), (1, .int 0), (2, .int 7)]) (st' := [.int 0]) (M' := s_M0) rfl ?_
              refine s_ek_ret (o := some (.int 0)) (fun _ => rfl) ?_
              show s_Ek (s_rows 3 L xs) 1299 s_e288.1 14 [(0, .ref 151), (1, .int a), (2, .int b)] [.int 0] s_M0 _
              refine s_ek_bk 2 (P := 18) (ls' := [(0, .ref 151), (1, .int a), (2, .int b)]) (st' := [.int (-1)]) (M' := s_M0) rfl ?_
              refine s_ek_ret (o := some (.int (-1))) (fun _ => rfl) ?_
              exact rfl
            · replace h6 : ¬ (b.toInt < 0) := h6
              replace h6 : 0 ≤ b.toInt := by omega
              omega
      · replace h3 : ¬ (b.toInt < 0) := h3
        replace h3 : 0 ≤ b.toInt := by omega
        refine s_ek_bk 2 (P := 7) (ls' := [(0, .int b)]) (st' := [.int 8, .int b]) (M' := s_M0) rfl ?_
        refine s_ek_if2 (T := 14) rfl rfl (fun h4 => ?_) (fun h4 => ?_)
        · replace h4 : 8 ≤ b.toInt := h4
          refine s_ek_bk 1 (P := 15) (ls' := [(0, .int b)]) (st' := [.int 0]) (M' := s_M0) rfl ?_
          refine s_ek_ret (o := some (.int 0)) (fun _ => rfl) ?_
          show s_Ek (s_rows 3 L xs) 1299 s_e167.1 11 [(0, .ref 0), (1, .int a), (2, .int b)] [.int 0] s_M0 _
          refine s_ek_bk 2 (P := 15) (ls' := [(0, .ref 0), (1, .int a), (2, .int b)]) (st' := [.int (-1)]) (M' := s_M0) rfl ?_
          refine s_ek_ret (o := some (.int (-1))) (fun _ => rfl) ?_
          refine ⟨(-1), rfl, ?_⟩
          show s_Ek (s_rows 3 L xs) 1299 s_e288.1 0 [(0, .ref 151), (1, .int a), (2, .int b)] [] s_M0 _
          refine s_ek_bk 1 (P := 1) (ls' := [(0, .ref 151), (1, .int a), (2, .int b)]) (st' := [.int a]) (M' := s_M0) rfl ?_
          refine s_ek_call (ν := s_e281.1) (P := 4) (as := [.int a]) (r := []) (fun _ => rfl) rfl ?_
          show s_Ek (s_rows 3 L xs) 1298 s_e281.1 0 [(0, .int a)] [] s_M0 _
          refine s_ek_bk 3 (P := 3) (ls' := [(0, .int a)]) (st' := [.int 5, .int 0, .int a]) (M' := s_M0) rfl ?_
          refine s_ek_call (ν := s_e181.1) (P := 6) (as := [.int a, .int 0, .int 5]) (r := []) (fun _ => rfl) rfl ?_
          show s_Ek (s_rows 3 L xs) 1297 s_e181.1 0 [(0, .int a), (1, .int 0), (2, .int 5)] [] s_M0 _
          refine s_ek_bk 2 (P := 2) (ls' := [(0, .int a), (1, .int 0), (2, .int 5)]) (st' := [.int 0, .int a]) (M' := s_M0) rfl ?_
          refine s_ek_if2 (T := 14) rfl rfl (fun h5 => ?_) (fun h5 => ?_)
          · replace h5 : a.toInt < 0 := h5
            omega
          · replace h5 : ¬ (a.toInt < 0) := h5
            replace h5 : 0 ≤ a.toInt := by omega
            refine s_ek_bk 2 (P := 7) (ls' := [(0, .int a), (1, .int 0), (2, .int 5)]) (st' := [.int 5, .int a]) (M' := s_M0) rfl ?_
            refine s_ek_if2 (T := 14) rfl rfl (fun h6 => ?_) (fun h6 => ?_)
            · replace h6 : 5 < a.toInt := h6
              omega
            · replace h6 : ¬ (5 < a.toInt) := h6
              replace h6 : a.toInt ≤ 5 := by omega
              refine s_ek_bk 2 (P := 15) (ls' := [(0, .int a), (1, .int 0), (2, .int 5)]) (st' := [.int 1]) (M' := s_M0) rfl ?_
              refine s_ek_ret (o := some (.int 1)) (fun _ => rfl) ?_
              show s_Ek (s_rows 3 L xs) 1298 s_e281.1 6 [(0, .int a)] [.int 1] s_M0 _
              refine s_ek_ret (o := some (.int 1)) (fun _ => rfl) ?_
              show s_Ek (s_rows 3 L xs) 1299 s_e288.1 4 [(0, .ref 151), (1, .int a), (2, .int b)] [.int 1] s_M0 _
              refine s_ek_bk 4 (P := 11) (ls' := [(0, .ref 151), (1, .int a), (2, .int b)]) (st' := [.int 7, .int 0, .int b]) (M' := s_M0) rfl ?_
              refine s_ek_call (ν := s_e181.1) (P := 14) (as := [.int b, .int 0, .int 7]) (r := []) (fun _ => rfl) rfl ?_
              show s_Ek (s_rows 3 L xs) 1298 s_e181.1 0 [(0, .int b), (1, .int 0), (2, .int 7)] [] s_M0 _
              refine s_ek_bk 2 (P := 2) (ls' := [(0, .int b), (1, .int 0), (2, .int 7)]) (st' := [.int 0, .int b]) (M' := s_M0) rfl ?_
              refine s_ek_if2 (T := 14) rfl rfl (fun h7 => ?_) (fun h7 => ?_)
              · replace h7 : b.toInt < 0 := h7
                omega
              · replace h7 : ¬ (b.toInt < 0) := h7
                replace h7 : 0 ≤ b.toInt := by omega
                refine s_ek_bk 2 (P := 7) (ls' := [(0, .int b), (1, .int 0), (2, .int 7)]) (st' := [.int 7, .int b]) (M' := s_M0) rfl ?_
                refine s_ek_if2 (T := 14) rfl rfl (fun h8 => ?_) (fun h8 => ?_)
                · replace h8 : 7 < b.toInt := h8
                  refine s_ek_bk 1 (P := 15) (ls' := [(0, .int b), (1, .int 0), (2, .int 7)]) (st' := [.int 0]) (M' := s_M0) rfl ?_
                  refine s_ek_ret (o := some (.int 0)) (fun _ => rfl) ?_
                  show s_Ek (s_rows 3 L xs) 1299 s_e288.1 14 [(0, .ref 151), (1, .int a), (2, .int b)] [.int 0] s_M0 _
                  refine s_ek_bk 2 (P := 18) (ls' := [(0, .ref 151), (1, .int a), (2, .int b)]) (st' := [.int (-1)]) (M' := s_M0) rfl ?_
                  refine s_ek_ret (o := some (.int (-1))) (fun _ => rfl) ?_
                  exact rfl
                · replace h8 : ¬ (7 < b.toInt) := h8
                  replace h8 : b.toInt ≤ 7 := by omega
                  omega
        · replace h4 : ¬ (8 ≤ b.toInt) := h4
          replace h4 : b.toInt < 8 := by omega
          refine s_ek_bk 2 (P := 15) (ls' := [(0, .int b)]) (st' := [.int 1]) (M' := s_M0) rfl ?_
          refine s_ek_ret (o := some (.int 1)) (fun _ => rfl) ?_
          show s_Ek (s_rows 3 L xs) 1299 s_e167.1 11 [(0, .ref 0), (1, .int a), (2, .int b)] [.int 1] s_M0 _
          refine s_ek_bk 3 (P := 18) (ls' := [(0, .ref 0), (1, .int a), (2, .int b)]) (st' := [.int a, .ref 0]) (M' := s_M0) rfl ?_
          refine s_ek_call (ν := s_e176.1) (P := 21) (as := [.ref 0, .int a]) (r := []) (fun _ => rfl) rfl ?_
          show s_Ek (s_rows 3 L xs) 1298 s_e176.1 0 [(0, .ref 0), (1, .int a)] [] s_M0 _
          refine s_ek_bk 1 (P := 1) (ls' := [(0, .ref 0), (1, .int a)]) (st' := [.int a]) (M' := s_M0) rfl ?_
          refine s_ek_if1 (T := 22) rfl rfl (fun h5 => ?_) (fun h5 => ?_)
          · replace h5 : a.toInt < 0 := h5
            omega
          · replace h5 : ¬ (a.toInt < 0) := h5
            replace h5 : 0 ≤ a.toInt := by omega
            refine s_ek_bk 4 (P := 10) (ls' := [(0, .ref 0), (1, .int a)]) (st' := [.int 6, .int a]) (M' := s_M0) rfl ?_
            refine s_ek_if2 (T := 22) rfl rfl (fun h6 => ?_) (fun h6 => ?_)
            · replace h6 : 6 ≤ a.toInt := h6
              omega
            · replace h6 : ¬ (6 ≤ a.toInt) := h6
              replace h6 : a.toInt < 6 := by omega
              refine s_ek_bk 3 (P := 18) (ls' := [(0, .ref 0), (1, .int a)]) (st' := [.int a, .ref 135]) (M' := s_M0) rfl ?_
              rcases s_rg_0_5 (a := a) (by omega) (by omega) with rfl | rfl | rfl | rfl | rfl | rfl
              · refine s_ek_bk 6 (P := 33) (ls' := [(0, .ref 0), (1, .int 0)]) (st' := [.ref 139]) (M' := s_M0) rfl ?_
                refine s_ek_ret (o := some (.ref 139)) (fun _ => rfl) ?_
                show s_Ek (s_rows 3 L xs) 1299 s_e167.1 21 [(0, .ref 0), (1, .int 0), (2, .int b)] [.ref 139] s_M0 _
                refine s_ek_bk 2 (P := 23) (ls' := [(3, .ref 139), (0, .ref 0), (1, .int 0), (2, .int b)]) (st' := [.ref 139]) (M' := s_M0) rfl ?_
                refine s_ek_call (ν := s_e84.1) (P := 26) (as := [.ref 139]) (r := []) (fun _ => rfl) rfl ?_
                show s_Ek (s_rows 3 L xs) 1298 s_e84.1 0 [(0, .ref 139)] [] s_M0 _
                refine s_ek_bk 6 (P := 13) (ls' := [(0, .ref 139)]) (st' := [.int 1]) (M' := s_M0) rfl ?_
                refine s_ek_ret (o := some (.int 1)) (fun _ => rfl) ?_
                show s_Ek (s_rows 3 L xs) 1299 s_e167.1 26 [(3, .ref 139), (0, .ref 0), (1, .int 0), (2, .int b)] [.int 1] s_M0 _
                refine s_ek_bk 2 (P := 31) (ls' := [(3, .ref 139), (0, .ref 0), (1, .int 0), (2, .int b)]) (st' := [.int (-11)]) (M' := s_M0) rfl ?_
                refine s_ek_ret (o := some (.int (-11))) (fun _ => rfl) ?_
                refine ⟨(-11), rfl, ?_⟩
                show s_Ek (s_rows 3 L xs) 1299 s_e288.1 0 [(0, .ref 151), (1, .int 0), (2, .int b)] [] s_M0 _
                refine s_ek_bk 1 (P := 1) (ls' := [(0, .ref 151), (1, .int 0), (2, .int b)]) (st' := [.int 0]) (M' := s_M0) rfl ?_
                refine s_ek_call (ν := s_e281.1) (P := 4) (as := [.int 0]) (r := []) (fun _ => rfl) rfl ?_
                show s_Ek (s_rows 3 L xs) 1298 s_e281.1 0 [(0, .int 0)] [] s_M0 _
                refine s_ek_bk 3 (P := 3) (ls' := [(0, .int 0)]) (st' := [.int 5, .int 0, .int 0]) (M' := s_M0) rfl ?_
                refine s_ek_call (ν := s_e181.1) (P := 6) (as := [.int 0, .int 0, .int 5]) (r := []) (fun _ => rfl) rfl ?_
                show s_Ek (s_rows 3 L xs) 1297 s_e181.1 0 [(0, .int 0), (1, .int 0), (2, .int 5)] [] s_M0 _
                refine s_ek_bk 8 (P := 15) (ls' := [(0, .int 0), (1, .int 0), (2, .int 5)]) (st' := [.int 1]) (M' := s_M0) rfl ?_
                refine s_ek_ret (o := some (.int 1)) (fun _ => rfl) ?_
                show s_Ek (s_rows 3 L xs) 1298 s_e281.1 6 [(0, .int 0)] [.int 1] s_M0 _
                refine s_ek_ret (o := some (.int 1)) (fun _ => rfl) ?_
                show s_Ek (s_rows 3 L xs) 1299 s_e288.1 4 [(0, .ref 151), (1, .int 0), (2, .int b)] [.int 1] s_M0 _
                refine s_ek_bk 4 (P := 11) (ls' := [(0, .ref 151), (1, .int 0), (2, .int b)]) (st' := [.int 7, .int 0, .int b]) (M' := s_M0) rfl ?_
                refine s_ek_call (ν := s_e181.1) (P := 14) (as := [.int b, .int 0, .int 7]) (r := []) (fun _ => rfl) rfl ?_
                show s_Ek (s_rows 3 L xs) 1298 s_e181.1 0 [(0, .int b), (1, .int 0), (2, .int 7)] [] s_M0 _
                refine s_ek_bk 2 (P := 2) (ls' := [(0, .int b), (1, .int 0), (2, .int 7)]) (st' := [.int 0, .int b]) (M' := s_M0) rfl ?_
                refine s_ek_if2 (T := 14) rfl rfl (fun h7 => ?_) (fun h7 => ?_)
                · replace h7 : b.toInt < 0 := h7
                  omega
                · replace h7 : ¬ (b.toInt < 0) := h7
                  replace h7 : 0 ≤ b.toInt := by omega
                  refine s_ek_bk 2 (P := 7) (ls' := [(0, .int b), (1, .int 0), (2, .int 7)]) (st' := [.int 7, .int b]) (M' := s_M0) rfl ?_
                  refine s_ek_if2 (T := 14) rfl rfl (fun h8 => ?_) (fun h8 => ?_)
                  · replace h8 : 7 < b.toInt := h8
                    omega
                  · replace h8 : ¬ (7 < b.toInt) := h8
                    replace h8 : b.toInt ≤ 7 := by omega
                    refine s_ek_bk 2 (P := 15) (ls' := [(0, .int b), (1, .int 0), (2, .int 7)]) (st' := [.int 1]) (M' := s_M0) rfl ?_
                    refine s_ek_ret (o := some (.int 1)) (fun _ => rfl) ?_
                    show s_Ek (s_rows 3 L xs) 1299 s_e288.1 14 [(0, .ref 151), (1, .int 0), (2, .int b)] [.int 1] s_M0 _
                    refine s_ek_bk 8 (P := 31) (ls' := [(0, .ref 151), (1, .int 0), (2, .int b)]) (st' := [.int (-11)]) (M' := s_M0) rfl ?_
                    refine s_ek_ret (o := some (.int (-11))) (fun _ => rfl) ?_
                    exact rfl
              · refine s_ek_bk 6 (P := 33) (ls' := [(0, .ref 0), (1, .int 1)]) (st' := [.ref 141]) (M' := s_M0) rfl ?_
                refine s_ek_ret (o := some (.ref 141)) (fun _ => rfl) ?_
                show s_Ek (s_rows 3 L xs) 1299 s_e167.1 21 [(0, .ref 0), (1, .int 1), (2, .int b)] [.ref 141] s_M0 _
                refine s_ek_bk 2 (P := 23) (ls' := [(3, .ref 141), (0, .ref 0), (1, .int 1), (2, .int b)]) (st' := [.ref 141]) (M' := s_M0) rfl ?_
                refine s_ek_call (ν := s_e84.1) (P := 26) (as := [.ref 141]) (r := []) (fun _ => rfl) rfl ?_
                show s_Ek (s_rows 3 L xs) 1298 s_e84.1 0 [(0, .ref 141)] [] s_M0 _
                refine s_ek_bk 6 (P := 13) (ls' := [(0, .ref 141)]) (st' := [.int 1]) (M' := s_M0) rfl ?_
                refine s_ek_ret (o := some (.int 1)) (fun _ => rfl) ?_
                show s_Ek (s_rows 3 L xs) 1299 s_e167.1 26 [(3, .ref 141), (0, .ref 0), (1, .int 1), (2, .int b)] [.int 1] s_M0 _
                refine s_ek_bk 2 (P := 31) (ls' := [(3, .ref 141), (0, .ref 0), (1, .int 1), (2, .int b)]) (st' := [.int (-11)]) (M' := s_M0) rfl ?_
                refine s_ek_ret (o := some (.int (-11))) (fun _ => rfl) ?_
                refine ⟨(-11), rfl, ?_⟩
                show s_Ek (s_rows 3 L xs) 1299 s_e288.1 0 [(0, .ref 151), (1, .int 1), (2, .int b)] [] s_M0 _
                refine s_ek_bk 1 (P := 1) (ls' := [(0, .ref 151), (1, .int 1), (2, .int b)]) (st' := [.int 1]) (M' := s_M0) rfl ?_
                refine s_ek_call (ν := s_e281.1) (P := 4) (as := [.int 1]) (r := []) (fun _ => rfl) rfl ?_
                show s_Ek (s_rows 3 L xs) 1298 s_e281.1 0 [(0, .int 1)] [] s_M0 _
                refine s_ek_bk 3 (P := 3) (ls' := [(0, .int 1)]) (st' := [.int 5, .int 0, .int 1]) (M' := s_M0) rfl ?_
                refine s_ek_call (ν := s_e181.1) (P := 6) (as := [.int 1, .int 0, .int 5]) (r := []) (fun _ => rfl) rfl ?_
                show s_Ek (s_rows 3 L xs) 1297 s_e181.1 0 [(0, .int 1), (1, .int 0), (2, .int 5)] [] s_M0 _
                refine s_ek_bk 8 (P := 15) (ls' := [(0, .int 1), (1, .int 0), (2, .int 5)]) (st' := [.int 1]) (M' := s_M0) rfl ?_
                refine s_ek_ret (o := some (.int 1)) (fun _ => rfl) ?_
                show s_Ek (s_rows 3 L xs) 1298 s_e281.1 6 [(0, .int 1)] [.int 1] s_M0 _
                refine s_ek_ret (o := some (.int 1)) (fun _ => rfl) ?_
                show s_Ek (s_rows 3 L xs) 1299 s_e288.1 4 [(0, .ref 151), (1, .int 1), (2, .int b)] [.int 1] s_M0 _
                refine s_ek_bk 4 (P := 11) (ls' := [(0, .ref 151), (1, .int 1), (2, .int b)]) (st' := [.int 7, .int 0, .int b]) (M' := s_M0) rfl ?_
                refine s_ek_call (ν := s_e181.1) (P := 14) (as := [.int b, .int 0, .int 7]) (r := []) (fun _ => rfl) rfl ?_
                show s_Ek (s_rows 3 L xs) 1298 s_e181.1 0 [(0, .int b), (1, .int 0), (2, .int 7)] [] s_M0 _
                refine s_ek_bk 2 (P := 2) (ls' := [(0, .int b), (1, .int 0), (2, .int 7)]) (st' := [.int 0, .int b]) (M' := s_M0) rfl ?_
                refine s_ek_if2 (T := 14) rfl rfl (fun h7 => ?_) (fun h7 => ?_)
                · replace h7 : b.toInt < 0 := h7
                  omega
                · replace h7 : ¬ (b.toInt < 0) := h7
                  replace h7 : 0 ≤ b.toInt := by omega
                  refine s_ek_bk 2 (P := 7) (ls' := [(0, .int b), (1, .int 0), (2, .int 7)]) (st' := [.int 7, .int b]) (M' := s_M0) rfl ?_
                  refine s_ek_if2 (T := 14) rfl rfl (fun h8 => ?_) (fun h8 => ?_)
                  · replace h8 : 7 < b.toInt := h8
                    omega
                  · replace h8 : ¬ (7 < b.toInt) := h8
                    replace h8 : b.toInt ≤ 7 := by omega
                    refine s_ek_bk 2 (P := 15) (ls' := [(0, .int b), (1, .int 0), (2, .int 7)]) (st' := [.int 1]) (M' := s_M0) rfl ?_
                    refine s_ek_ret (o := some (.int 1)) (fun _ => rfl) ?_
                    show s_Ek (s_rows 3 L xs) 1299 s_e288.1 14 [(0, .ref 151), (1, .int 1), (2, .int b)] [.int 1] s_M0 _
                    refine s_ek_bk 8 (P := 31) (ls' := [(0, .ref 151), (1, .int 1), (2, .int b)]) (st' := [.int (-11)]) (M' := s_M0) rfl ?_
                    refine s_ek_ret (o := some (.int (-11))) (fun _ => rfl) ?_
                    exact rfl
              · refine s_ek_bk 6 (P := 33) (ls' := [(0, .ref 0), (1, .int 2)]) (st' := [.ref 143]) (M' := s_M0) rfl ?_
                refine s_ek_ret (o := some (.ref 143)) (fun _ => rfl) ?_
                show s_Ek (s_rows 3 L xs) 1299 s_e167.1 21 [(0, .ref 0), (1, .int 2), (2, .int b)] [.ref 143] s_M0 _
                refine s_ek_bk 2 (P := 23) (ls' := [(3, .ref 143), (0, .ref 0), (1, .int 2), (2, .int b)]) (st' := [.ref 143]) (M' := s_M0) rfl ?_
                refine s_ek_call (ν := s_e84.1) (P := 26) (as := [.ref 143]) (r := []) (fun _ => rfl) rfl ?_
                show s_Ek (s_rows 3 L xs) 1298 s_e84.1 0 [(0, .ref 143)] [] s_M0 _
                refine s_ek_bk 6 (P := 13) (ls' := [(0, .ref 143)]) (st' := [.int 1]) (M' := s_M0) rfl ?_
                refine s_ek_ret (o := some (.int 1)) (fun _ => rfl) ?_
                show s_Ek (s_rows 3 L xs) 1299 s_e167.1 26 [(3, .ref 143), (0, .ref 0), (1, .int 2), (2, .int b)] [.int 1] s_M0 _
                refine s_ek_bk 2 (P := 31) (ls' := [(3, .ref 143), (0, .ref 0), (1, .int 2), (2, .int b)]) (st' := [.int (-11)]) (M' := s_M0) rfl ?_
                refine s_ek_ret (o := some (.int (-11))) (fun _ => rfl) ?_
                refine ⟨(-11), rfl, ?_⟩
                show s_Ek (s_rows 3 L xs) 1299 s_e288.1 0 [(0, .ref 151), (1, .int 2), (2, .int b)] [] s_M0 _
                refine s_ek_bk 1 (P := 1) (ls' := [(0, .ref 151), (1, .int 2), (2, .int b)]) (st' := [.int 2]) (M' := s_M0) rfl ?_
                refine s_ek_call (ν := s_e281.1) (P := 4) (as := [.int 2]) (r := []) (fun _ => rfl) rfl ?_
                show s_Ek (s_rows 3 L xs) 1298 s_e281.1 0 [(0, .int 2)] [] s_M0 _
                refine s_ek_bk 3 (P := 3) (ls' := [(0, .int 2)]) (st' := [.int 5, .int 0, .int 2]) (M' := s_M0) rfl ?_
                refine s_ek_call (ν := s_e181.1) (P := 6) (as := [.int 2, .int 0, .int 5]) (r := []) (fun _ => rfl) rfl ?_
                show s_Ek (s_rows 3 L xs) 1297 s_e181.1 0 [(0, .int 2), (1, .int 0), (2, .int 5)] [] s_M0 _
                refine s_ek_bk 8 (P := 15) (ls' := [(0, .int 2), (1, .int 0), (2, .int 5)]) (st' := [.int 1]) (M' := s_M0) rfl ?_
                refine s_ek_ret (o := some (.int 1)) (fun _ => rfl) ?_
                show s_Ek (s_rows 3 L xs) 1298 s_e281.1 6 [(0, .int 2)] [.int 1] s_M0 _
                refine s_ek_ret (o := some (.int 1)) (fun _ => rfl) ?_
                show s_Ek (s_rows 3 L xs) 1299 s_e288.1 4 [(0, .ref 151), (1, .int 2), (2, .int b)] [.int 1] s_M0 _
                refine s_ek_bk 4 (P := 11) (ls' := [(0, .ref 151), (1, .int 2), (2, .int b)]) (st' := [.int 7, .int 0, .int b]) (M' := s_M0) rfl ?_
                refine s_ek_call (ν := s_e181.1) (P := 14) (as := [.int b, .int 0, .int 7]) (r := []) (fun _ => rfl) rfl ?_
                show s_Ek (s_rows 3 L xs) 1298 s_e181.1 0 [(0, .int b), (1, .int 0), (2, .int 7)] [] s_M0 _
                refine s_ek_bk 2 (P := 2) (ls' := [(0, .int b), (1, .int 0), (2, .int 7)]) (st' := [.int 0, .int b]) (M' := s_M0) rfl ?_
                refine s_ek_if2 (T := 14) rfl rfl (fun h7 => ?_) (fun h7 => ?_)
                · replace h7 : b.toInt < 0 := h7
                  omega
                · replace h7 : ¬ (b.toInt < 0) := h7
                  replace h7 : 0 ≤ b.toInt := by omega
                  refine s_ek_bk 2 (P := 7) (ls' := [(0, .int b), (1, .int 0), (2, .int 7)]) (st' := [.int 7, .int b]) (M' := s_M0) rfl ?_
                  refine s_ek_if2 (T := 14) rfl rfl (fun h8 => ?_) (fun h8 => ?_)
                  · replace h8 : 7 < b.toInt := h8
                    omega
                  · replace h8 : ¬ (7 < b.toInt) := h8
                    replace h8 : b.toInt ≤ 7 := by omega
                    refine s_ek_bk 2 (P := 15) (ls' := [(0, .int b), (1, .int 0), (2, .int 7)]) (st' := [.int 1]) (M' := s_M0) rfl ?_
                    refine s_ek_ret (o := some (.int 1)) (fun _ => rfl) ?_
                    show s_Ek (s_rows 3 L xs) 1299 s_e288.1 14 [(0, .ref 151), (1, .int 2), (2, .int b)] [.int 1] s_M0 _
                    refine s_ek_bk 8 (P := 31) (ls' := [(0, .ref 151), (1, .int 2), (2, .int b)]) (st' := [.int (-11)]) (M' := s_M0) rfl ?_
                    refine s_ek_ret (o := some (.int (-11))) (fun _ => rfl) ?_
                    exact rfl
              · refine s_ek_bk 6 (P := 33) (ls' := [(0, .ref 0), (1, .int 3)]) (st' := [.ref 145]) (M' := s_M0) rfl ?_
                refine s_ek_ret (o := some (.ref 145)) (fun _ => rfl) ?_
                show s_Ek (s_rows 3 L xs) 1299 s_e167.1 21 [(0, .ref 0), (1, .int 3), (2, .int b)] [.ref 145] s_M0 _
                refine s_ek_bk 2 (P := 23) (ls' := [(3, .ref 145), (0, .ref 0), (1, .int 3), (2, .int b)]) (st' := [.ref 145]) (M' := s_M0) rfl ?_
                refine s_ek_call (ν := s_e84.1) (P := 26) (as := [.ref 145]) (r := []) (fun _ => rfl) rfl ?_
                show s_Ek (s_rows 3 L xs) 1298 s_e84.1 0 [(0, .ref 145)] [] s_M0 _
                refine s_ek_bk 6 (P := 13) (ls' := [(0, .ref 145)]) (st' := [.int 1]) (M' := s_M0) rfl ?_
                refine s_ek_ret (o := some (.int 1)) (fun _ => rfl) ?_
                show s_Ek (s_rows 3 L xs) 1299 s_e167.1 26 [(3, .ref 145), (0, .ref 0), (1, .int 3), (2, .int b)] [.int 1] s_M0 _
                refine s_ek_bk 2 (P := 31) (ls' := [(3, .ref 145), (0, .ref 0), (1, .int 3), (2, .int b)]) (st' := [.int (-11)]) (M' := s_M0) rfl ?_
                refine s_ek_ret (o := some (.int (-11))) (fun _ => rfl) ?_
                refine ⟨(-11), rfl, ?_⟩
                show s_Ek (s_rows 3 L xs) 1299 s_e288.1 0 [(0, .ref 151), (1, .int 3), (2, .int b)] [] s_M0 _
                refine s_ek_bk 1 (P := 1) (ls' := [(0, .ref 151), (1, .int 3), (2, .int b)]) (st' := [.int 3]) (M' := s_M0) rfl ?_
                refine s_ek_call (ν := s_e281.1) (P := 4) (as := [.int 3]) (r := []) (fun _ => rfl) rfl ?_
                show s_Ek (s_rows 3 L xs) 1298 s_e281.1 0 [(0, .int 3)] [] s_M0 _
                refine s_ek_bk 3 (P := 3) (ls' := [(0, .int 3)]) (st' := [.int 5, .int 0, .int 3]) (M' := s_M0) rfl ?_
                refine s_ek_call (ν := s_e181.1) (P := 6) (as := [.int 3, .int 0, .int 5]) (r := []) (fun _ => rfl) rfl ?_
                show s_Ek (s_rows 3 L xs) 1297 s_e181.1 0 [(0, .int 3), (1, .int 0), (2, .int 5)] [] s_M0 _
                refine s_ek_bk 8 (P := 15) (ls' := [(0, .int 3), (1, .int 0), (2, .int 5)]) (st' := [.int 1]) (M' := s_M0) rfl ?_
                refine s_ek_ret (o := some (.int 1)) (fun _ => rfl) ?_
                show s_Ek (s_rows 3 L xs) 1298 s_e281.1 6 [(0, .int 3)] [.int 1] s_M0 _
                refine s_ek_ret (o := some (.int 1)) (fun _ => rfl) ?_
                show s_Ek (s_rows 3 L xs) 1299 s_e288.1 4 [(0, .ref 151), (1, .int 3), (2, .int b)] [.int 1] s_M0 _
                refine s_ek_bk 4 (P := 11) (ls' := [(0, .ref 151), (1, .int 3), (2, .int b)]) (st' := [.int 7, .int 0, .int b]) (M' := s_M0) rfl ?_
                refine s_ek_call (ν := s_e181.1) (P := 14) (as := [.int b, .int 0, .int 7]) (r := []) (fun _ => rfl) rfl ?_
                show s_Ek (s_rows 3 L xs) 1298 s_e181.1 0 [(0, .int b), (1, .int 0), (2, .int 7)] [] s_M0 _
                refine s_ek_bk 2 (P := 2) (ls' := [(0, .int b), (1, .int 0), (2, .int 7)]) (st' := [.int 0, .int b]) (M' := s_M0) rfl ?_
                refine s_ek_if2 (T := 14) rfl rfl (fun h7 => ?_) (fun h7 => ?_)
                · replace h7 : b.toInt < 0 := h7
                  omega
                · replace h7 : ¬ (b.toInt < 0) := h7
                  replace h7 : 0 ≤ b.toInt := by omega
                  refine s_ek_bk 2 (P := 7) (ls' := [(0, .int b), (1, .int 0), (2, .int 7)]) (st' := [.int 7, .int b]) (M' := s_M0) rfl ?_
                  refine s_ek_if2 (T := 14) rfl rfl (fun h8 => ?_) (fun h8 => ?_)
                  · replace h8 : 7 < b.toInt := h8
                    omega
                  · replace h8 : ¬ (7 < b.toInt) := h8
                    replace h8 : b.toInt ≤ 7 := by omega
                    refine s_ek_bk 2 (P := 15) (ls' := [(0, .int b), (1, .int 0), (2, .int 7)]) (st' := [.int 1]) (M' := s_M0) rfl ?_
                    refine s_ek_ret (o := some (.int 1)) (fun _ => rfl) ?_
                    show s_Ek (s_rows 3 L xs) 1299 s_e288.1 14 [(0, .ref 151), (1, .int 3), (2, .int b)] [.int 1] s_M0 _
                    refine s_ek_bk 8 (P := 31) (ls' := [(0, .ref 151), (1, .int 3), (2, .int b)]) (st' := [.int (-11)]) (M' := s_M0) rfl ?_
                    refine s_ek_ret (o := some (.int (-11))) (fun _ => rfl) ?_
                    exact rfl
              · refine s_ek_bk 6 (P := 33) (ls' := [(0, .ref 0), (1, .int 4)]) (st' := [.ref 147]) (M' := s_M0) rfl ?_
                refine s_ek_ret (o := some (.ref 147)) (fun _ => rfl) ?_
                show s_Ek (s_rows 3 L xs) 1299 s_e167.1 21 [(0, .ref 0), (1, .int 4), (2, .int b)] [.ref 147] s_M0 _
                refine s_ek_bk 2 (P := 23) (ls' := [(3, .ref 147), (0, .ref 0), (1, .int 4), (2, .int b)]) (st' := [.ref 147]) (M' := s_M0) rfl ?_
                refine s_ek_call (ν := s_e84.1) (P := 26) (as := [.ref 147]) (r := []) (fun _ => rfl) rfl ?_
                show s_Ek (s_rows 3 L xs) 1298 s_e84.1 0 [(0, .ref 147)] [] s_M0 _
                refine s_ek_bk 6 (P := 13) (ls' := [(0, .ref 147)]) (st' := [.int 1]) (M' := s_M0) rfl ?_
                refine s_ek_ret (o := some (.int 1)) (fun _ => rfl) ?_
                show s_Ek (s_rows 3 L xs) 1299 s_e167.1 26 [(3, .ref 147), (0, .ref 0), (1, .int 4), (2, .int b)] [.int 1] s_M0 _
                refine s_ek_bk 2 (P := 31) (ls' := [(3, .ref 147), (0, .ref 0), (1, .int 4), (2, .int b)]) (st' := [.int (-11)]) (M' := s_M0) rfl ?_
                refine s_ek_ret (o := some (.int (-11))) (fun _ => rfl) ?_
                refine ⟨(-11), rfl, ?_⟩
                show s_Ek (s_rows 3 L xs) 1299 s_e288.1 0 [(0, .ref 151), (1, .int 4), (2, .int b)] [] s_M0 _
                refine s_ek_bk 1 (P := 1) (ls' := [(0, .ref 151), (1, .int 4), (2, .int b)]) (st' := [.int 4]) (M' := s_M0) rfl ?_
                refine s_ek_call (ν := s_e281.1) (P := 4) (as := [.int 4]) (r := []) (fun _ => rfl) rfl ?_
                show s_Ek (s_rows 3 L xs) 1298 s_e281.1 0 [(0, .int 4)] [] s_M0 _
                refine s_ek_bk 3 (P := 3) (ls' := [(0, .int 4)]) (st' := [.int 5, .int 0, .int 4]) (M' := s_M0) rfl ?_
                refine s_ek_call (ν := s_e181.1) (P := 6) (as := [.int 4, .int 0, .int 5]) (r := []) (fun _ => rfl) rfl ?_
                show s_Ek (s_rows 3 L xs) 1297 s_e181.1 0 [(0, .int 4), (1, .int 0), (2, .int 5)] [] s_M0 _
                refine s_ek_bk 8 (P := 15) (ls' := [(0, .int 4), (1, .int 0), (2, .int 5)]) (st' := [.int 1]) (M' := s_M0) rfl ?_
                refine s_ek_ret (o := some (.int 1)) (fun _ => rfl) ?_
                show s_Ek (s_rows 3 L xs) 1298 s_e281.1 6 [(0, .int 4)] [.int 1] s_M0 _
                refine s_ek_ret (o := some (.int 1)) (fun _ => rfl) ?_
                show s_Ek (s_rows 3 L xs) 1299 s_e288.1 4 [(0, .ref 151), (1, .int 4), (2, .int b)] [.int 1] s_M0 _
                refine s_ek_bk 4 (P := 11) (ls' := [(0, .ref 151), (1, .int 4), (2, .int b)]) (st' := [.int 7, .int 0, .int b]) (M' := s_M0) rfl ?_
                refine s_ek_call (ν := s_e181.1) (P := 14) (as := [.int b, .int 0, .int 7]) (r := []) (fun _ => rfl) rfl ?_
                show s_Ek (s_rows 3 L xs) 1298 s_e181.1 0 [(0, .int b), (1, .int 0), (2, .int 7)] [] s_M0 _
                refine s_ek_bk 2 (P := 2) (ls' := [(0, .int b), (1, .int 0), (2, .int 7)]) (st' := [.int 0, .int b]) (M' := s_M0) rfl ?_
                refine s_ek_if2 (T := 14) rfl rfl (fun h7 => ?_) (fun h7 => ?_)
                · replace h7 : b.toInt < 0 := h7
                  omega
                · replace h7 : ¬ (b.toInt < 0) := h7
                  replace h7 : 0 ≤ b.toInt := by omega
                  refine s_ek_bk 2 (P := 7) (ls' := [(0, .int b), (1, .int 0), (2, .int 7)]) (st' := [.int 7, .int b]) (M' := s_M0) rfl ?_
                  refine s_ek_if2 (T := 14) rfl rfl (fun h8 => ?_) (fun h8 => ?_)
                  · replace h8 : 7 < b.toInt := h8
                    omega
                  · replace h8 : ¬ (7 < b.toInt) := h8
                    replace h8 : b.toInt ≤ 7 := by omega
                    refine s_ek_bk 2 (P := 15) (ls' := [(0, .int b), (1, .int 0), (2, .int 7)]) (st' := [.int 1]) (M' := s_M0) rfl ?_
                    refine s_ek_ret (o := some (.int 1)) (fun _ => rfl) ?_
                    show s_Ek (s_rows 3 L xs) 1299 s_e288.1 14 [(0, .ref 151), (1, .int 4), (2, .int b)] [.int 1] s_M0 _
                    refine s_ek_bk 8 (P := 31) (ls' := [(0, .ref 151), (1, .int 4), (2, .int b)]) (st' := [.int (-11)]) (M' := s_M0) rfl ?_
                    refine s_ek_ret (o := some (.int (-11))) (fun _ => rfl) ?_
                    exact rfl
              · refine s_ek_bk 6 (P := 33) (ls' := [(0, .ref 0), (1, .int 5)]) (st' := [.ref 149]) (M' := s_M0) rfl ?_
                refine s_ek_ret (o := some (.ref 149)) (fun _ => rfl) ?_
                show s_Ek (s_rows 3 L xs) 1299 s_e167.1 21 [(0, .ref 0), (1, .int 5), (2, .int b)] [.ref 149] s_M0 _
                refine s_ek_bk 2 (P := 23) (ls' := [(3, .ref 149), (0, .ref 0), (1, .int 5), (2, .int b)]) (st' := [.ref 149]) (M' := s_M0) rfl ?_
                refine s_ek_call (ν := s_e84.1) (P := 26) (as := [.ref 149]) (r := []) (fun _ => rfl) rfl ?_
                show s_Ek (s_rows 3 L xs) 1298 s_e84.1 0 [(0, .ref 149)] [] s_M0 _
                refine s_ek_bk 6 (P := 13) (ls' := [(0, .ref 149)]) (st' := [.int 1]) (M' := s_M0) rfl ?_
                refine s_ek_ret (o := some (.int 1)) (fun _ => rfl) ?_
                show s_Ek (s_rows 3 L xs) 1299 s_e167.1 26 [(3, .ref 149), (0, .ref 0), (1, .int 5), (2, .int b)] [.int 1] s_M0 _
                refine s_ek_bk 2 (P := 31) (ls' := [(3, .ref 149), (0, .ref 0), (1, .int 5), (2, .int b)]) (st' := [.int (-11)]) (M' := s_M0) rfl ?_
                refine s_ek_ret (o := some (.int (-11))) (fun _ => rfl) ?_
                refine ⟨(-11), rfl, ?_⟩
                show s_Ek (s_rows 3 L xs) 1299 s_e288.1 0 [(0, .ref 151), (1, .int 5), (2, .int b)] [] s_M0 _
                refine s_ek_bk 1 (P := 1) (ls' := [(0, .ref 151), (1, .int 5), (2, .int b)]) (st' := [.int 5]) (M' := s_M0) rfl ?_
                refine s_ek_call (ν := s_e281.1) (P := 4) (as := [.int 5]) (r := []) (fun _ => rfl) rfl ?_
                show s_Ek (s_rows 3 L xs) 1298 s_e281.1 0 [(0, .int 5)] [] s_M0 _
                refine s_ek_bk 3 (P := 3) (ls' := [(0, .int 5)]) (st' := [.int 5, .int 0, .int 5]) (M' := s_M0) rfl ?_
                refine s_ek_call (ν := s_e181.1) (P := 6) (as := [.int 5, .int 0, .int 5]) (r := []) (fun _ => rfl) rfl ?_
                show s_Ek (s_rows 3 L xs) 1297 s_e181.1 0 [(0, .int 5), (1, .int 0), (2, .int 5)] [] s_M0 _
                refine s_ek_bk 8 (P := 15) (ls' := [(0, .int 5), (1, .int 0), (2, .int 5)]) (st' := [.int 1]) (M' := s_M0) rfl ?_
                refine s_ek_ret (o := some (.int 1)) (fun _ => rfl) ?_
                show s_Ek (s_rows 3 L xs) 1298 s_e281.1 6 [(0, .int 5)] [.int 1] s_M0 _
                refine s_ek_ret (o := some (.int 1)) (fun _ => rfl) ?_
                show s_Ek (s_rows 3 L xs) 1299 s_e288.1 4 [(0, .ref 151), (1, .int 5), (2, .int b)] [.int 1] s_M0 _
                refine s_ek_bk 4 (P := 11) (ls' := [(0, .ref 151), (1, .int 5), (2, .int b)]) (st' := [.int 7, .int 0, .int b]) (M' := s_M0) rfl ?_
                refine s_ek_call (ν := s_e181.1) (P := 14) (as := [.int b, .int 0, .int 7]) (r := []) (fun _ => rfl) rfl ?_
                show s_Ek (s_rows 3 L xs) 1298 s_e181.1 0 [(0, .int b), (1, .int 0), (2, .int 7)] [] s_M0 _
                refine s_ek_bk 2 (P := 2) (ls' := [(0, .int b), (1, .int 0), (2, .int 7)]) (st' := [.int 0, .int b]) (M' := s_M0) rfl ?_
                refine s_ek_if2 (T := 14) rfl rfl (fun h7 => ?_) (fun h7 => ?_)
                · replace h7 : b.toInt < 0 := h7
                  omega
                · replace h7 : ¬ (b.toInt < 0) := h7
                  replace h7 : 0 ≤ b.toInt := by omega
                  refine s_ek_bk 2 (P := 7) (ls' := [(0, .int b), (1, .int 0), (2, .int 7)]) (st' := [.int 7, .int b]) (M' := s_M0) rfl ?_
                  refine s_ek_if2 (T := 14) rfl rfl (fun h8 => ?_) (fun h8 => ?_)
                  · replace h8 : 7 < b.toInt := h8
                    omega
                  · replace h8 : ¬ (7 < b.toInt) := h8
                    replace h8 : b.toInt ≤ 7 := by omega
                    refine s_ek_bk 2 (P := 15) (ls' := [(0, .int b), (1, .int 0), (2, .int 7)]) (st' := [.int 1]) (M' := s_M0) rfl ?_
                    refine s_ek_ret (o := some (.int 1)) (fun _ => rfl) ?_
                    show s_Ek (s_rows 3 L xs) 1299 s_e288.1 14 [(0, .ref 151), (1, .int 5), (2, .int b)] [.int 1] s_M0 _
                    refine s_ek_bk 8 (P := 31) (ls' := [(0, .ref 151), (1, .int 5), (2, .int b)]) (st' := [.int (-11)]) (M' := s_M0) rfl ?_
                    refine s_ek_ret (o := some (.int (-11))) (fun _ => rfl) ?_
                    exact rfl
set_option maxHeartbeats 20000000 in
set_option maxRecDepth 100000 in
theorem s_op_count (L : Nat) (xs : Nat → Int32) (a : Int32) : s_Ek (s_rows 3 L xs) 1299 s_e168.1 0 (lv_args 0 [.ref 0, .int a]) [] s_M0 (fun v M1 => ∃ r : Int32, v = some (.int r) ∧ s_Ek (s_rows 3 L xs) 1299 s_e280.1 0 (lv_args 0 [.ref 151, .int a]) [] M1 (fun w _ => w = some (.int r))) := by
  show s_Ek (s_rows 3 L xs) 1299 s_e168.1 0 [(0, .ref 0), (1, .int a)] [] s_M0 _
  refine s_ek_bk 1 (P := 1) (ls' := [(0, .ref 0), (1, .int a)]) (st' := [.int a]) (M' := s_M0) rfl ?_
  rcases Int.lt_or_le a.toInt 0 with h1 | h1
  · refine s_ek_tso (T := 110) rfl rfl (by omega) ?_
    refine s_ek_bk 1 (P := 111) (ls' := [(0, .ref 0), (1, .int a)]) (st' := [.int (-1)]) (M' := s_M0) rfl ?_
    refine s_ek_ret (o := some (.int (-1))) (fun _ => rfl) ?_
    refine ⟨(-1), rfl, ?_⟩
    show s_Ek (s_rows 3 L xs) 1299 s_e280.1 0 [(0, .ref 151), (1, .int a)] [] s_M0 _
    refine s_ek_bk 1 (P := 1) (ls' := [(0, .ref 151), (1, .int a)]) (st' := [.int a]) (M' := s_M0) rfl ?_
    refine s_ek_tso (T := 79) rfl rfl (by omega) ?_
    refine s_ek_bk 1 (P := 80) (ls' := [(0, .ref 151), (1, .int a)]) (st' := [.int (-1)]) (M' := s_M0) rfl ?_
    refine s_ek_ret (o := some (.int (-1))) (fun _ => rfl) ?_
    exact rfl
  · rcases Int.lt_or_le 6 a.toInt with h2 | h2
    · refine s_ek_tso (T := 110) rfl rfl (by omega) ?_
      refine s_ek_bk 1 (P := 111) (ls' := [(0, .ref 0), (1, .int a)]) (st' := [.int (-1)]) (M' := s_M0) rfl ?_
      refine s_ek_ret (o := some (.int (-1))) (fun _ => rfl) ?_
      refine ⟨(-1), rfl, ?_⟩
      show s_Ek (s_rows 3 L xs) 1299 s_e280.1 0 [(0, .ref 151), (1, .int a)] [] s_M0 _
      refine s_ek_bk 1 (P := 1) (ls' := [(0, .ref 151), (1, .int a)]) (st' := [.int a]) (M' := s_M0) rfl ?_
      refine s_ek_tso (T := 79) rfl rfl (by omega) ?_
      refine s_ek_bk 1 (P := 80) (ls' := [(0, .ref 151), (1, .int a)]) (st' := [.int (-1)]) (M' := s_M0) rfl ?_
      refine s_ek_ret (o := some (.int (-1))) (fun _ => rfl) ?_
      exact rfl
    · rcases s_rg_0_6 (a := a) (by omega) (by omega) with rfl | rfl | rfl | rfl | rfl | rfl | rfl
      · refine s_ek_bk 4 (P := 51) (ls' := [(0, .ref 0), (1, .int 0)]) (st' := [.int 0]) (M' := s_M0) rfl ?_
        refine s_ek_ret (o := some (.int 0)) (fun _ => rfl) ?_
        refine ⟨0, rfl, ?_⟩
        show s_Ek (s_rows 3 L xs) 1299 s_e280.1 0 [(0, .ref 151), (1, .int 0)] [] s_M0 _
        refine s_ek_bk 4 (P := 48) (ls' := [(0, .ref 151), (1, .int 0)]) (st' := [.int 0]) (M' := s_M0) rfl ?_
        refine s_ek_ret (o := some (.int 0)) (fun _ => rfl) ?_
        exact rfl
      · refine s_ek_bk 3 (P := 56) (ls' := [(0, .ref 0), (1, .int 1)]) (st' := [.ref 8]) (M' := s_M0) rfl ?_
        refine s_ek_call (ν := s_e47.1) (P := 59) (as := [.ref 8]) (r := []) (fun _ => rfl) rfl ?_
        show s_Ek (s_rows 3 L xs) 1298 s_e47.1 0 [(0, .ref 8)] [] s_M0 _
        refine s_ek_bk 9 (P := 33) (ls' := [(2, .int 0), (1, .int 0), (0, .ref 8)]) (st' := [.int 0]) (M' := s_M0) rfl ?_
        refine s_ek_ret (o := some (.int 0)) (fun _ => rfl) ?_
        show s_Ek (s_rows 3 L xs) 1299 s_e168.1 59 [(0, .ref 0), (1, .int 1)] [.int 0] s_M0 _
        refine s_ek_call (ν := s_e289.1) (P := 62) (as := [.int 0]) (r := []) (fun _ => rfl) rfl ?_
        show s_Ek (s_rows 3 L xs) 1298 s_e289.1 0 [(0, .int 0)] [] s_M0 _
        refine s_ek_bk 41 (P := 52) (ls' := [(0, .int 0)]) (st' := [.int 0]) (M' := s_M0) rfl ?_
        refine s_ek_ret (o := some (.int 0)) (fun _ => rfl) ?_
        show s_Ek (s_rows 3 L xs) 1299 s_e168.1 62 [(0, .ref 0), (1, .int 1)] [.int 0] s_M0 _
        refine s_ek_ret (o := some (.int 0)) (fun _ => rfl) ?_
        refine ⟨0, rfl, ?_⟩
        show s_Ek (s_rows 3 L xs) 1299 s_e280.1 0 [(0, .ref 151), (1, .int 1)] [] s_M0 _
        refine s_ek_bk 3 (P := 50) (ls' := [(0, .ref 151), (1, .int 1)]) (st' := [.ref 151]) (M' := s_M0) rfl ?_
        refine s_ek_call (ν := s_e228.1) (P := 53) (as := [.ref 151]) (r := []) (fun _ => rfl) rfl ?_
        show s_Ek (s_rows 3 L xs) 1298 s_e228.1 0 [(0, .ref 151)] [] s_M0 _
        refine s_ek_bk 9 (P := 30) (ls' := [(2, .int 0), (1, .int 0), (0, .ref 151)]) (st' := [.int 0]) (M' := s_M0) rfl ?_
        refine s_ek_ret (o := some (.int 0)) (fun _ => rfl) ?_
        show s_Ek (s_rows 3 L xs) 1299 s_e280.1 53 [(0, .ref 151), (1, .int 1)] [.int 0] s_M0 _
        refine s_ek_ret (o := some (.int 0)) (fun _ => rfl) ?_
        exact rfl
      · refine s_ek_bk 3 (P := 67) (ls' := [(0, .ref 0), (1, .int 2)]) (st' := [.ref 8]) (M' := s_M0) rfl ?_
        refine s_ek_call (ν := s_e48.1) (P := 70) (as := [.ref 8]) (r := []) (fun _ => rfl) rfl ?_
        refine s_ek_run s_El_rows s_cle_0 ?_
        show s_Ek (s_rows 3 L xs) 1299 s_e168.1 70 [(0, .ref 0), (1, .int 2)] [] s_M0 _
        refine s_ek_bk 3 (P := 77) (ls' := [(0, .ref 0), (1, .int 2)]) (st' := [.int 0]) (M' := s_M0) rfl ?_
        refine s_ek_call (ν := s_e289.1) (P := 80) (as := [.int 0]) (r := []) (fun _ => rfl) rfl ?_
        show s_Ek (s_rows 3 L xs) 1298 s_e289.1 0 [(0, .int 0)] [] s_M0 _
        refine s_ek_bk 41 (P := 52) (ls' := [(0, .int 0)]) (st' := [.int 0]) (M' := s_M0) rfl ?_
        refine s_ek_ret (o := some (.int 0)) (fun _ => rfl) ?_
        show s_Ek (s_rows 3 L xs) 1299 s_e168.1 80 [(0, .ref 0), (1, .int 2)] [.int 0] s_M0 _
        refine s_ek_ret (o := some (.int 0)) (fun _ => rfl) ?_
        refine ⟨0, rfl, ?_⟩
        show s_Ek (s_rows 3 L xs) 1299 s_e280.1 0 [(0, .ref 151), (1, .int 2)] [] s_M0 _
        refine s_ek_bk 3 (P := 55) (ls' := [(0, .ref 151), (1, .int 2)]) (st' := [.ref 151]) (M' := s_M0) rfl ?_
        refine s_ek_call (ν := s_e279.1) (P := 58) (as := [.ref 151]) (r := []) (fun _ => rfl) rfl ?_
        show s_Ek (s_rows 3 L xs) 1298 s_e279.1 0 [(0, .ref 151)] [] s_M0 _
        refine s_ek_bk 3 (P := 3) (ls' := [(0, .ref 151)]) (st' := [.int (-1), .int 0, .ref 151]) (M' := s_M0) rfl ?_
        refine s_ek_call (ν := s_e219.1) (P := 6) (as := [.ref 151, .int 0, .int (-1)]) (r := []) (fun _ => rfl) rfl ?_
        refine s_ek_run s_El_rows s_cle_1 ?_
        show s_Ek (s_rows 3 L xs) 1298 s_e279.1 6 [(0, .ref 151)] [] (s_M0.set 151 (11, ([Value.int 0, Value.ref 152, Value.int 0, Value.int 0, Value.int 0, Value.int 0, Value.int 0, Value.ref 153, Value.ref 154, Value.ref 155, Value.ref 156, Value.ref 157, Value.ref 158, Value.ref 159, Value.int 0, Value.ref 160, Value.ref 161, Value.ref 162, Value.int 0, Value.int 99, Value.ref 163, Value.ref 164, Value.ref 165, Value.int 0, Value.int 0, Value.ref 166, Value.ref 167, Value.ref 168, Value.ref 169, Value.ref 170, Value.int 0, Value.int (-1), Value.ref 171, Value.ref 172, Value.ref 173, Value.int 0, Value.int 0, Value.ref 174, Value.ref 175, Value.ref 176, Value.ref 177, Value.ref 178, Value.int 0, Value.ref 179, Value.int 0, Value.ref 180, Value.ref 181, Value.ref 182, Value.ref 183, Value.ref 184] : List Value))) _
        refine s_ek_bk 1 (P := 7) (ls' := [(0, .ref 151)]) (st' := [.ref 151]) (M' := (s_M0.set 151 (11, ([Value.int 0, Value.ref 152, Value.int 0, Value.int 0, Value.int 0, Value.int 0, Value.int 0, Value.ref 153, Value.ref 154, Value.ref 155, Value.ref 156, Value.ref 157, Value.ref 158, Value.ref 159, Value.int 0, Value.ref 160, Value.ref 161, Value.ref 162, Value.int 0, Value.int 99, Value.ref 163, Value.ref 164, Value.ref 165, Value.int 0, Value.int 0, Value.ref 166, Value.ref 167, Value.ref 168, Value.ref 169, Value.ref 170, Value.int 0, Value.int (-1), Value.ref 171, Value.ref 172, Value.ref 173, Value.int 0, Value.int 0, Value.ref 174, Value.ref 175, Value.ref 176, Value.ref 177, Value.ref 178, Value.int 0, Value.ref 179, Value.int 0, Value.ref 180, Value.ref 181, Value.ref 182, Value.ref 183, Value.ref 184] : List Value)))) rfl ?_
        refine s_ek_call (ν := s_e227.1) (P := 10) (as := [.ref 151]) (r := []) (fun _ => rfl) rfl ?_
        show s_Ek (s_rows 3 L xs) 1297 s_e227.1 0 [(0, .ref 151)] [] (s_M0.set 151 (11, ([Value.int 0, Value.ref 152, Value.int 0, Value.int 0, Value.int 0, Value.int 0, Value.int 0, Value.ref 153, Value.ref 154, Value.ref 155, Value.ref 156, Value.ref 157, Value.ref 158, Value.ref 159, Value.int 0, Value.ref 160, Value.ref 161, Value.ref 162, Value.int 0, Value.int 99, Value.ref 163, Value.ref 164, Value.ref 165, Value.int 0, Value.int 0, Value.ref 166, Value.ref 167, Value.ref 168, Value.ref 169, Value.ref 170, Value.int 0, Value.int (-1), Value.ref 171, Value.ref 172, Value.ref 173, Value.int 0, Value.int 0, Value.ref 174, Value.ref 175, Value.ref 176, Value.ref 177, Value.ref 178, Value.int 0, Value.ref 179, Value.int 0, Value.ref 180, Value.ref 181, Value.ref 182, Value.ref 183, Value.ref 184] : List Value))) _
        refine s_ek_bk 9 (P := 31) (ls' := [(2, .int 0), (1, .int 0), (0, .ref 151)]) (st' := [.int 0]) (M' := (s_M0.set 151 (11, ([Value.int 0, Value.ref 152, Value.int 0, Value.int 0, Value.int 0, Value.int 0, Value.int 0, Value.ref 153, Value.ref 154, Value.ref 155, Value.ref 156, Value.ref 157, Value.ref 158, Value.ref 159, Value.int 0, Value.ref 160, Value.ref 161, Value.ref 162, Value.int 0, Value.int 99, Value.ref 163, Value.ref 164, Value.ref 165, Value.int 0, Value.int 0, Value.ref 166, Value.ref 167, Value.ref 168, Value.ref 169, Value.ref 170, Value.int 0, Value.int (-1), Value.ref 171, Value.ref 172, Value.ref 173, Value.int 0, Value.int 0, Value.ref 174, Value.ref 175, Value.ref 176, Value.ref 177, Value.ref 178, Value.int 0, Value.ref 179, Value.int 0, Value.ref 180, Value.ref 181, Value.ref 182, Value.ref 183, Value.ref 184] : List Value)))) rfl ?_
        refine s_ek_ret (o := some (.int 0)) (fun _ => rfl) ?_
        show s_Ek (s_rows 3 L xs) 1298 s_e279.1 10 [(0, .ref 151)] [.int 0] (s_M0.set 151 (11, ([Value.int 0, Value.ref 152, Value.int 0, Value.int 0, Value.int 0, Value.int 0, Value.int 0, Value.ref 153, Value.ref 154, Value.ref 155, Value.ref 156, Value.ref 157, Value.ref 158, Value.ref 159, Value.int 0, Value.ref 160, Value.ref 161, Value.ref 162, Value.int 0, Value.int 99, Value.ref 163, Value.ref 164, Value.ref 165, Value.int 0, Value.int 0, Value.ref 166, Value.ref 167, Value.ref 168, Value.ref 169, Value.ref 170, Value.int 0, Value.int (-1), Value.ref 171, Value.ref 172, Value.ref 173, Value.int 0, Value.int 0, Value.ref 174, Value.ref 175, Value.ref 176, Value.ref 177, Value.ref 178, Value.int 0, Value.ref 179, Value.int 0, Value.ref 180, Value.ref 181, Value.ref 182, Value.ref 183, Value.ref 184] : List Value))) _
        refine s_ek_ret (o := some (.int 0)) (fun _ => rfl) ?_
        show s_Ek (s_rows 3 L xs) 1299 s_e280.1 58 [(0, .ref 151), (1, .int 2)] [.int 0] (s_M0.set 151 (11, ([Value.int 0, Value.ref 152, Value.int 0, Value.int 0, Value.int 0, Value.int 0, Value.int 0, Value.ref 153, Value.ref 154, Value.ref 155, Value.ref 156, Value.ref 157, Value.ref 158, Value.ref 159, Value.int 0, Value.ref 160, Value.ref 161, Value.ref 162, Value.int 0, Value.int 99, Value.ref 163, Value.ref 164, Value.ref 165, Value.int 0, Value.int 0, Value.ref 166, Value.ref 167, Value.ref 168, Value.ref 169, Value.ref 170, Value.int 0, Value.int (-1), Value.ref 171, Value.ref 172, Value.ref 173, Value.int 0, Value.int 0, Value.ref 174, Value.ref 175, Value.ref 176, Value.ref 177, Value.ref 178, Value.int 0, Value.ref 179, Value.int 0, Value.ref 180, Value.ref 181, Value.ref 182, Value.ref 183, Value.ref 184] : List Value))) _
        refine s_ek_ret (o := some (.int 0)) (fun _ => rfl) ?_
        exact rfl
      · refine s_ek_bk 3 (P := 85) (ls' := [(0, .ref 0), (1, .int 3)]) (st' := [.int 0]) (M' := s_M0) rfl ?_
        refine s_ek_ret (o := some (.int 0)) (fun _ => rfl) ?_
        refine ⟨0, rfl, ?_⟩
        show s_Ek (s_rows 3 L xs) 1299 s_e280.1 0 [(0, .ref 151), (1, .int 3)] [] s_M0 _
        refine s_ek_bk 4 (P := 63) (ls' := [(0, .ref 151), (1, .int 3)]) (st' := [.int 0]) (M' := s_M0) rfl ?_
        refine s_ek_ret (o := some (.int 0)) (fun _ => rfl) ?_
        exact rfl
      · refine s_ek_bk 4 (P := 93) (ls' := [(0, .ref 0), (1, .int 4)]) (st' := [.int 0]) (M' := s_M0) rfl ?_
        refine s_ek_ret (o := some (.int 0)) (fun _ => rfl) ?_
        refine ⟨0, rfl, ?_⟩
        show s_Ek (s_rows 3 L xs) 1299 s_e280.1 0 [(0, .ref 151), (1, .int 4)] [] s_M0 _
        refine s_ek_bk 4 (P := 68) (ls' := [(0, .ref 151), (1, .int 4)]) (st' := [.int 0]) (M' := s_M0) rfl ?_
        refine s_ek_ret (o := some (.int 0)) (fun _ => rfl) ?_
        exact rfl
      · refine s_ek_bk 4 (P := 101) (ls' := [(0, .ref 0), (1, .int 5)]) (st' := [.int 0]) (M' := s_M0) rfl ?_
        refine s_ek_ret (o := some (.int 0)) (fun _ => rfl) ?_
        refine ⟨0, rfl, ?_⟩
        show s_Ek (s_rows 3 L xs) 1299 s_e280.1 0 [(0, .ref 151), (1, .int 5)] [] s_M0 _
        refine s_ek_bk 4 (P := 73) (ls' := [(0, .ref 151), (1, .int 5)]) (st' := [.int 0]) (M' := s_M0) rfl ?_
        refine s_ek_ret (o := some (.int 0)) (fun _ => rfl) ?_
        exact rfl
      · refine s_ek_bk 4 (P := 109) (ls' := [(0, .ref 0), (1, .int 6)]) (st' := [.int 0]) (M' := s_M0) rfl ?_
        refine s_ek_ret (o := some (.int 0)) (fun _ => rfl) ?_
        refine ⟨0, rfl, ?_⟩
        show s_Ek (s_rows 3 L xs) 1299 s_e280.1 0 [(0, .ref 151), (1, .int 6)] [] s_M0 _
        refine s_ek_bk 4 (P := 78) (ls' := [(0, .ref 151), (1, .int 6)]) (st' := [.int 0]) (M' := s_M0) rfl ?_
        refine s_ek_ret (o := some (.int 0)) (fun _ => rfl) ?_
        exact rfl
