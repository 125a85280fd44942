/-! the calls on fresh objects: moved of clash -/
set_option maxHeartbeats 20000000 in
set_option maxRecDepth 100000 in
theorem s_op_moved (L : Nat) (xs : Nat → Int32) (a : Int32) (b : Int32) (c : Int32) : s_Ek (s_rows 3 L xs) 1299 s_e140.1 0 (lv_args 0 [.ref 0, .int a, .int b, .int c]) [] s_M0 (fun v M1 => ∃ r : Int32, v = some (.int r) ∧ s_Ek (s_rows 3 L xs) 1299 s_e214.1 0 (lv_args 0 [.ref 151, .int a, .int b, .int c]) [] M1 (fun w _ => w = some (.int r))) := by
  show s_Ek (s_rows 3 L xs) 1299 s_e140.1 0 [(0, .ref 0), (1, .int a), (2, .int b), (3, .int c)] [] s_M0 _
  refine s_ek_bk 1 (P := 1) (ls' := [(0, .ref 0), (1, .int a), (2, .int b), (3, .int c)]) (st' := [.int a]) (M' := s_M0) rfl ?_
  refine s_ek_call (ν := s_e172.1) (P := 4) (as := [.int a]) (r := []) (fun _ => rfl) rfl ?_
  show s_Ek (s_rows 3 L xs) 1298 s_e172.1 0 [(0, .int a)] [] s_M0 _
  refine s_ek_bk 1 (P := 1) (ls' := [(0, .int a)]) (st' := [.int a]) (M' := s_M0) rfl ?_
  refine s_ek_if1 (T := 13) rfl rfl (fun h1 => ?_) (fun h1 => ?_)
  · replace h1 : a.toInt < 0 := h1
    refine s_ek_bk 1 (P := 14) (ls' := [(0, .int a)]) (st' := [.int 0]) (M' := s_M0) rfl ?_
    refine s_ek_ret (o := some (.int 0)) (fun _ => rfl) ?_
    show s_Ek (s_rows 3 L xs) 1299 s_e140.1 4 [(0, .ref 0), (1, .int a), (2, .int b), (3, .int c)] [.int 0] s_M0 _
    refine s_ek_bk 2 (P := 8) (ls' := [(0, .ref 0), (1, .int a), (2, .int b), (3, .int c)]) (st' := [.int (-1)]) (M' := s_M0) rfl ?_
    refine s_ek_ret (o := some (.int (-1))) (fun _ => rfl) ?_
    refine ⟨(-1), rfl, ?_⟩
    show s_Ek (s_rows 3 L xs) 1299 s_e214.1 0 [(0, .ref 151), (1, .int a), (2, .int b), (3, .int c)] [] s_M0 _
    refine s_ek_bk 3 (P := 3) (ls' := [(0, .ref 151), (1, .int a), (2, .int b), (3, .int c)]) (st' := [.int 2, .int 0, .int a]) (M' := s_M0) rfl ?_
    refine s_ek_call (ν := s_e181.1) (P := 6) (as := [.int a, .int 0, .int 2]) (r := []) (fun _ => rfl) rfl ?_
    show s_Ek (s_rows 3 L xs) 1298 s_e181.1 0 [(0, .int a), (1, .int 0), (2, .int 2)] [] s_M0 _
    refine s_ek_bk 2 (P := 2) (ls' := [(0, .int a), (1, .int 0), (2, .int 2)]) (st' := [.int 0, .int a]) (M' := s_M0) rfl ?_
    refine s_ek_if2 (T := 14) rfl rfl (fun h2 => ?_) (fun h2 => ?_)
    · replace h2 : a.toInt < 0 := h2
      refine s_ek_bk 1 (P := 15) (ls' := [(0, .int a), (1, .int 0), (2, .int 2)]) (st' := [.int 0]) (M' := s_M0) rfl ?_
      refine s_ek_ret (o := some (.int 0)) (fun _ => rfl) ?_
      show s_Ek (s_rows 3 L xs) 1299 s_e214.1 6 [(0, .ref 151), (1, .int a), (2, .int b), (3, .int c)] [.int 0] s_M0 _
      refine s_ek_bk 2 (P := 10) (ls' := [(0, .ref 151), (1, .int a), (2, .int b), (3, .int c)]) (st' := [.int (-1)]) (M' := s_M0) rfl ?_
      refine s_ek_ret (o := some (.int (-1))) (fun _ => rfl) ?_
      exact rfl
    · replace h2 : ¬ (a.toInt < 0) := h2
      replace h2 : 0 ≤ a.toInt := by omega
      omega
  · replace h1 : ¬ (a.toInt < 0) := h1
    replace h1 : 0 ≤ a.toInt := by omega
    refine s_ek_bk 2 (P := 6) (ls' := [(0, .int a)]) (st' := [.int 3, .int a]) (M' := s_M0) rfl ?_
    refine s_ek_if2 (T := 13) rfl rfl (fun h2 => ?_) (fun h2 => ?_)
    · replace h2 : 3 ≤ a.toInt := h2
      refine s_ek_bk 1 (P := 14) (ls' := [(0, .int a)]) (st' := [.int 0]) (M' := s_M0) rfl ?_
      refine s_ek_ret (o := some (.int 0)) (fun _ => rfl) ?_
      show s_Ek (s_rows 3 L xs) 1299 s_e140.1 4 [(0, .ref 0), (1, .int a), (2, .int b), (3, .int c)] [.int 0] s_M0 _
      refine s_ek_bk 2 (P := 8) (ls' := [(0, .ref 0), (1, .int a), (2, .int b), (3, .int c)]) (st' := [.int (-1)]) (M' := s_M0) rfl ?_
      refine s_ek_ret (o := some (.int (-1))) (fun _ => rfl) ?_
      refine ⟨(-1), rfl, ?_⟩
      show s_Ek (s_rows 3 L xs) 1299 s_e214.1 0 [(0, .ref 151), (1, .int a), (2, .int b), (3, .int c)] [] s_M0 _
      refine s_ek_bk 3 (P := 3) (ls' := [(0, .ref 151), (1, .int a), (2, .int b), (3, .int c)]) (st' := [.int 2, .int 0, .int a]) (M' := s_M0) rfl ?_
      refine s_ek_call (ν := s_e181.1) (P := 6) (as := [.int a, .int 0, .int 2]) (r := []) (fun _ => rfl) rfl ?_
      show s_Ek (s_rows 3 L xs) 1298 s_e181.1 0 [(0, .int a), (1, .int 0), (2, .int 2)] [] s_M0 _
      refine s_ek_bk 2 (P := 2) (ls' := [(0, .int a), (1, .int 0), (2, .int 2)]) (st' := [.int 0, .int a]) (M' := s_M0) rfl ?_
      refine s_ek_if2 (T := 14) rfl rfl (fun h3 => ?_) (fun h3 => ?_)
      · replace h3 : a.toInt < 0 := h3
        omega
      · replace h3 : ¬ (a.toInt < 0) := h3
        replace h3 : 0 ≤ a.toInt := by omega
        refine s_ek_bk 2 (P := 7) (ls' := [(0, .int a), (1, .int 0), (2, .int 2)]) (st' := [.int 2, .int a]) (M' := s_M0) rfl ?_
        refine s_ek_if2 (T := 14) rfl rfl (fun h4 => ?_) (fun h4 => ?_)
        · replace h4 : 2 < a.toInt := h4
          refine s_ek_bk 1 (P := 15) (ls' := [(0, .int a), (1, .int 0), (2, .int 2)]) (st' := [.int 0]) (M' := s_M0) rfl ?_
          refine s_ek_ret (o := some (.int 0)) (fun _ => rfl) ?_
          show s_Ek (s_rows 3 L xs) 1299 s_e214.1 6 [(0, .ref 151), (1, .int a), (2, .int b), (3, .int c)] [.int 0] s_M0 _
          refine s_ek_bk 2 (P := 10) (ls' := [(0, .ref 151), (1, .int a), (2, .int b), (3, .int c)]) (st' := [.int (-1)]) (M' := s_M0) rfl ?_
          refine s_ek_ret (o := some (.int (-1))) (fun _ => rfl) ?_
          exact rfl
        · replace h4 : ¬ (2 < a.toInt) := h4
          replace h4 : a.toInt ≤ 2 := by omega
          omega
    · replace h2 : ¬ (3 ≤ a.toInt) := h2
      replace h2 : a.toInt < 3 := by omega
      refine s_ek_bk 2 (P := 14) (ls' := [(0, .int a)]) (st' := [.int 1]) (M' := s_M0) rfl ?_
      refine s_ek_ret (o := some (.int 1)) (fun _ => rfl) ?_
      show s_Ek (s_rows 3 L xs) 1299 s_e140.1 4 [(0, .ref 0), (1, .int a), (2, .int b), (3, .int c)] [.int 1] s_M0 _
      refine s_ek_bk 3 (P := 11) (ls' := [(0, .ref 0), (1, .int a), (2, .int b), (3, .int c)]) (st' := [.int (-1), .int b]) (M' := s_M0) rfl ?_
      refine s_ek_if2 (T := 29) rfl rfl (fun h3 => ?_) (fun h3 => ?_)
      · replace h3 : ¬ b.toInt = (-1) := h3
        refine s_ek_bk 1 (P := 30) (ls' := [(0, .ref 0), (1, .int a), (2, .int b), (3, .int c)]) (st' := [.int b]) (M' := s_M0) rfl ?_
        refine s_ek_call (ν := s_e172.1) (P := 33) (as := [.int b]) (r := []) (fun _ => rfl) rfl ?_
        show s_Ek (s_rows 3 L xs) 1298 s_e172.1 0 [(0, .int b)] [] s_M0 _
        refine s_ek_bk 1 (P := 1) (ls' := [(0, .int b)]) (st' := [.int b]) (M' := s_M0) rfl ?_
        refine s_ek_if1 (T := 13) rfl rfl (fun h4 => ?_) (fun h4 => ?_)
        · replace h4 : b.toInt < 0 := h4
          refine s_ek_bk 1 (P := 14) (ls' := [(0, .int b)]) (st' := [.int 0]) (M' := s_M0) rfl ?_
          refine s_ek_ret (o := some (.int 0)) (fun _ => rfl) ?_
          show s_Ek (s_rows 3 L xs) 1299 s_e140.1 33 [(0, .ref 0), (1, .int a), (2, .int b), (3, .int c)] [.int 0] s_M0 _
          refine s_ek_bk 2 (P := 49) (ls' := [(0, .ref 0), (1, .int a), (2, .int b), (3, .int c)]) (st' := [.int (-1)]) (M' := s_M0) rfl ?_
          refine s_ek_ret (o := some (.int (-1))) (fun _ => rfl) ?_
          refine ⟨(-1), rfl, ?_⟩
          show s_Ek (s_rows 3 L xs) 1299 s_e214.1 0 [(0, .ref 151), (1, .int a), (2, .int b), (3, .int c)] [] s_M0 _
          refine s_ek_bk 3 (P := 3) (ls' := [(0, .ref 151), (1, .int a), (2, .int b), (3, .int c)]) (st' := [.int 2, .int 0, .int a]) (M' := s_M0) rfl ?_
          refine s_ek_call (ν := s_e181.1) (P := 6) (as := [.int a, .int 0, .int 2]) (r := []) (fun _ => rfl) rfl ?_
          show s_Ek (s_rows 3 L xs) 1298 s_e181.1 0 [(0, .int a), (1, .int 0), (2, .int 2)] [] s_M0 _
          refine s_ek_bk 2 (P := 2) (ls' := [(0, .int a), (1, .int 0), (2, .int 2)]) (st' := [.int 0, .int a]) (M' := s_M0) rfl ?_
          refine s_ek_if2 (T := 14) rfl rfl (fun h5 => ?_) (fun h5 => ?_)
          · replace h5 : a.toInt < 0 := h5
            omega
          · replace h5 : ¬ (a.toInt < 0) := h5
            replace h5 : 0 ≤ a.toInt := by omega
            refine s_ek_bk 2 (P := 7) (ls' := [(0, .int a), (1, .int 0), (2, .int 2)]) (st' := [.int 2, .int a]) (M' := s_M0) rfl ?_
            refine s_ek_if2 (T := 14) rfl rfl (fun h6 => ?_) (fun h6 => ?_)
            · replace h6 : 2 < a.toInt := h6
              omega
            · replace h6 : ¬ (2 < a.toInt) := h6
              replace h6 : a.toInt ≤ 2 := by omega
              refine s_ek_bk 2 (P := 15) (ls' := [(0, .int a), (1, .int 0), (2, .int 2)]) (st' := [.int 1]) (M' := s_M0) rfl ?_
              refine s_ek_ret (o := some (.int 1)) (fun _ => rfl) ?_
              show s_Ek (s_rows 3 L xs) 1299 s_e214.1 6 [(0, .ref 151), (1, .int a), (2, .int b), (3, .int c)] [.int 1] s_M0 _
              refine s_ek_bk 3 (P := 13) (ls' := [(0, .ref 151), (1, .int a), (2, .int b), (3, .int c)]) (st' := [.int (-1), .int b]) (M' := s_M0) rfl ?_
              refine s_ek_if2 (T := 25) rfl rfl (fun h7 => ?_) (fun h7 => ?_)
              · replace h7 : ¬ b.toInt = (-1) := h7
                refine s_ek_bk 3 (P := 28) (ls' := [(0, .ref 151), (1, .int a), (2, .int b), (3, .int c)]) (st' := [.int 2, .int 0, .int b]) (M' := s_M0) rfl ?_
                refine s_ek_call (ν := s_e181.1) (P := 31) (as := [.int b, .int 0, .int 2]) (r := []) (fun _ => rfl) rfl ?_
                show s_Ek (s_rows 3 L xs) 1298 s_e181.1 0 [(0, .int b), (1, .int 0), (2, .int 2)] [] s_M0 _
                refine s_ek_bk 2 (P := 2) (ls' := [(0, .int b), (1, .int 0), (2, .int 2)]) (st' := [.int 0, .int b]) (M' := s_M0) rfl ?_
                refine s_ek_if2 (T := 14) rfl rfl (fun h8 => ?_) (fun h8 => ?_)
                · replace h8 : b.toInt < 0 := h8
                  refine s_ek_bk 1 (P := 15) (ls' := [(0, .int b), (1, .int 0), (2, .int 2)]) (st' := [.int 0]) (M' := s_M0) rfl ?_
                  refine s_ek_ret (o := some (.int 0)) (fun _ => rfl) ?_
                  show s_Ek (s_rows 3 L xs) 1299 s_e214.1 31 [(0, .ref 151), (1, .int a), (2, .int b), (3, .int c)] [.int 0] s_M0 _
                  refine s_ek_bk 2 (P := 50) (ls' := [(0, .ref 151), (1, .int a), (2, .int b), (3, .int c)]) (st' := [.int (-1)]) (M' := s_M0) rfl ?_
                  refine s_ek_ret (o := some (.int (-1))) (fun _ => rfl) ?_
                  exact rfl
                · replace h8 : ¬ (b.toInt < 0) := h8
                  replace h8 : 0 ≤ b.toInt := by omega
                  omega
              · replace h7 : ¬ (¬ b.toInt = (-1)) := h7
                replace h7 : b.toInt = (-1) := by omega
                omega
        · replace h4 : ¬ (b.toInt < 0) := h4
          replace h4 : 0 ≤ b.toInt := by omega
          refine s_ek_bk 2 (P := 6) (ls' := [(0, .int b)]) (st' := [.int 3, .int b]) (M' := s_M0) rfl ?_
          refine s_ek_if2 (T := 13) rfl rfl (fun h5 => ?_) (fun h5 => ?_)
          · replace h5 : 3 ≤ b.toInt := h5
            refine s_ek_bk 1 (P := 14) (ls' := [(0, .int b)]) (st' := [.int 0]) (M' := s_M0) rfl ?_
            refine s_ek_ret (o := some (.int 0)) (fun _ => rfl) ?_
            show s_Ek (s_rows 3 L xs) 1299 s_e140.1 33 [(0, .ref 0), (1, .int a), (2, .int b), (3, .int c)] [.int 0] s_M0 _
            refine s_ek_bk 2 (P := 49) (ls' := [(0, .ref 0), (1, .int a), (2, .int b), (3, .int c)]) (st' := [.int (-1)]) (M' := s_M0) rfl ?_
            refine s_ek_ret (o := some (.int (-1))) (fun _ => rfl) ?_
            refine ⟨(-1), rfl, ?_⟩
            show s_Ek (s_rows 3 L xs) 1299 s_e214.1 0 [(0, .ref 151), (1, .int a), (2, .int b), (3, .int c)] [] s_M0 _
            refine s_ek_bk 3 (P := 3) (ls' := [(0, .ref 151), (1, .int a), (2, .int b), (3, .int c)]) (st' := [.int 2, .int 0, .int a]) (M' := s_M0) rfl ?_
            refine s_ek_call (ν := s_e181.1) (P := 6) (as := [.int a, .int 0, .int 2]) (r := []) (fun _ => rfl) rfl ?_
            show s_Ek (s_rows 3 L xs) 1298 s_e181.1 0 [(0, .int a), (1, .int 0), (2, .int 2)] [] s_M0 _
            refine s_ek_bk 2 (P := 2) (ls' := [(0, .int a), (1, .int 0), (2, .int 2)]) (st' := [.int 0, .int a]) (M' := s_M0) rfl ?_
            refine s_ek_if2 (T := 14) rfl rfl (fun h6 => ?_) (fun h6 => ?_)
            · replace h6 : a.toInt < 0 := h6
              omega
            · replace h6 : ¬ (a.toInt < 0) := h6
              replace h6 : 0 ≤ a.toInt := by omega
              refine s_ek_bk 2 (P := 7) (ls' := [(0, .int a), (1, .int 0), (2, .int 2)]) (st' := [.int 2, .int a]) (M' := s_M0) rfl ?_
              refine s_ek_if2 (T := 14) rfl rfl (fun h7 => ?_) (fun h7 => ?_)
              · replace h7 : 2 < a.toInt := h7
                omega
              · replace h7 : ¬ (2 < a.toInt) := h7
                replace h7 : a.toInt ≤ 2 := by omega
                refine s_ek_bk 2 (P := 15) (ls' := [(0, .int a), (1, .int 0), (2, .int 2)]) (st' := [.int 1]) (M' := s_M0) rfl ?_
                refine s_ek_ret (o := some (.int 1)) (fun _ => rfl) ?_
                show s_Ek (s_rows 3 L xs) 1299 s_e214.1 6 [(0, .ref 151), (1, .int a), (2, .int b), (3, .int c)] [.int 1] s_M0 _
                refine s_ek_bk 3 (P := 13) (ls' := [(0, .ref 151), (1, .int a), (2, .int b), (3, .int c)]) (st' := [.int (-1), .int b]) (M' := s_M0) rfl ?_
                refine s_ek_if2 (T := 25) rfl rfl (fun h8 => ?_) (fun h8 => ?_)
                · replace h8 : ¬ b.toInt = (-1) := h8
                  refine s_ek_bk 3 (P := 28) (ls' := [(0, .ref 151), (1, .int a), (2, .int b), (3, .int c)]) (st' := [.int 2, .int 0, .int b]) (M' := s_M0) rfl ?_
                  refine s_ek_call (ν := s_e181.1) (P := 31) (as := [.int b, .int 0, .int 2]) (r := []) (fun _ => rfl) rfl ?_
                  show s_Ek (s_rows 3 L xs) 1298 s_e181.1 0 [(0, .int b), (1, .int 0), (2, .int 2)] [] s_M0 _
                  refine s_ek_bk 2 (P := 2) (ls' := [(0, .int b), (1, .int 0), (2, .int 2)]) (st' := [.int 0, .int b]) (M' := s_M0) rfl ?_
                  refine s_ek_if2 (T := 14) rfl rfl (fun h9 => ?_) (fun h9 => ?_)
                  · replace h9 : b.toInt < 0 := h9
                    omega
                  · replace h9 : ¬ (b.toInt < 0) := h9
                    replace h9 : 0 ≤ b.toInt := by omega
                    refine s_ek_bk 2 (P := 7) (ls' := [(0, .int b), (1, .int 0), (2, .int 2)]) (st' := [.int 2, .int b]) (M' := s_M0) rfl ?_
                    refine s_ek_if2 (T := 14) rfl rfl (fun h10 => ?_) (fun h10 => ?_)
                    · replace h10 : 2 < b.toInt := h10
                      refine s_ek_bk 1 (P := 15) (ls' := [(0, .int b), (1, .int 0), (2, .int 2)]) (st' := [.int 0]) (M' := s_M0) rfl ?_
                      refine s_ek_ret (o := some (.int 0)) (fun _ => rfl) ?_
                      show s_Ek (s_rows 3 L xs) 1299 s_e214.1 31 [(0, .ref 151), (1, .int a), (2, .int b), (3, .int c)] [.int 0] s_M0 _
                      refine s_ek_bk 2 (P := 50) (ls' := [(0, .ref 151), (1, .int a), (2, .int b), (3, .int c)]) (st' := [.int (-1)]) (M' := s_M0) rfl ?_
                      refine s_ek_ret (o := some (.int (-1))) (fun _ => rfl) ?_
                      exact rfl
                    · replace h10 : ¬ (2 < b.toInt) := h10
                      replace h10 : b.toInt ≤ 2 := by omega
                      omega
                · replace h8 : ¬ (¬ b.toInt = (-1)) := h8
                  replace h8 : b.toInt = (-1) := by omega
                  omega
          · replace h5 : ¬ (3 ≤ b.toInt) := h5
            replace h5 : b.toInt < 3 := by omega
            refine s_ek_bk 2 (P := 14) (ls' := [(0, .int b)]) (st' := [.int 1]) (M' := s_M0) rfl ?_
            refine s_ek_ret (o := some (.int 1)) (fun _ => rfl) ?_
            show s_Ek (s_rows 3 L xs) 1299 s_e140.1 33 [(0, .ref 0), (1, .int a), (2, .int b), (3, .int c)] [.int 1] s_M0 _
            refine s_ek_bk 3 (P := 38) (ls' := [(0, .ref 0), (1, .int a), (2, .int b), (3, .int c)]) (st' := [.int a, .int b]) (M' := s_M0) rfl ?_
            rcases s_rg_0_2 (a := a) (by omega) (by omega) with rfl | rfl | rfl
            · refine s_ek_if2 (T := 48) rfl rfl (fun h6 => ?_) (fun h6 => ?_)
              · replace h6 : b.toInt = 0 := h6
                refine s_ek_bk 1 (P := 49) (ls' := [(0, .ref 0), (1, .int 0), (2, .int b), (3, .int c)]) (st' := [.int (-1)]) (M' := s_M0) rfl ?_
                refine s_ek_ret (o := some (.int (-1))) (fun _ => rfl) ?_
                refine ⟨(-1), rfl, ?_⟩
                show s_Ek (s_rows 3 L xs) 1299 s_e214.1 0 [(0, .ref 151), (1, .int 0), (2, .int b), (3, .int c)] [] s_M0 _
                refine s_ek_bk 3 (P := 3) (ls' := [(0, .ref 151), (1, .int 0), (2, .int b), (3, .int c)]) (st' := [.int 2, .int 0, .int 0]) (M' := s_M0) rfl ?_
                refine s_ek_call (ν := s_e181.1) (P := 6) (as := [.int 0, .int 0, .int 2]) (r := []) (fun _ => rfl) rfl ?_
                show s_Ek (s_rows 3 L xs) 1298 s_e181.1 0 [(0, .int 0), (1, .int 0), (2, .int 2)] [] s_M0 _
                refine s_ek_bk 8 (P := 15) (ls' := [(0, .int 0), (1, .int 0), (2, .int 2)]) (st' := [.int 1]) (M' := s_M0) rfl ?_
                refine s_ek_ret (o := some (.int 1)) (fun _ => rfl) ?_
                show s_Ek (s_rows 3 L xs) 1299 s_e214.1 6 [(0, .ref 151), (1, .int 0), (2, .int b), (3, .int c)] [.int 1] s_M0 _
                refine s_ek_bk 3 (P := 13) (ls' := [(0, .ref 151), (1, .int 0), (2, .int b), (3, .int c)]) (st' := [.int (-1), .int b]) (M' := s_M0) rfl ?_
                refine s_ek_if2 (T := 25) rfl rfl (fun h7 => ?_) (fun h7 => ?_)
                · replace h7 : ¬ b.toInt = (-1) := h7
                  refine s_ek_bk 3 (P := 28) (ls' := [(0, .ref 151), (1, .int 0), (2, .int b), (3, .int c)]) (st' := [.int 2, .int 0, .int b]) (M' := s_M0) rfl ?_
                  refine s_ek_call (ν := s_e181.1) (P := 31) (as := [.int b, .int 0, .int 2]) (r := []) (fun _ => rfl) rfl ?_
                  show s_Ek (s_rows 3 L xs) 1298 s_e181.1 0 [(0, .int b), (1, .int 0), (2, .int 2)] [] s_M0 _
                  refine s_ek_bk 2 (P := 2) (ls' := [(0, .int b), (1, .int 0), (2, .int 2)]) (st' := [.int 0, .int b]) (M' := s_M0) rfl ?_
                  refine s_ek_if2 (T := 14) rfl rfl (fun h8 => ?_) (fun h8 => ?_)
                  · replace h8 : b.toInt < 0 := h8
                    omega
                  · replace h8 : ¬ (b.toInt < 0) := h8
                    replace h8 : 0 ≤ b.toInt := by omega
                    refine s_ek_bk 2 (P := 7) (ls' := [(0, .int b), (1, .int 0), (2, .int 2)]) (st' := [.int 2, .int b]) (M' := s_M0) rfl ?_
                    refine s_ek_if2 (T := 14) rfl rfl (fun h9 => ?_) (fun h9 => ?_)
                    · replace h9 : 2 < b.toInt := h9
                      omega
                    · replace h9 : ¬ (2 < b.toInt) := h9
                      replace h9 : b.toInt ≤ 2 := by omega
                      refine s_ek_bk 2 (P := 15) (ls' := [(0, .int b), (1, .int 0), (2, .int 2)]) (st' := [.int 1]) (M' := s_M0) rfl ?_
                      refine s_ek_ret (o := some (.int 1)) (fun _ => rfl) ?_
                      show s_Ek (s_rows 3 L xs) 1299 s_e214.1 31 [(0, .ref 151), (1, .int 0), (2, .int b), (3, .int c)] [.int 1] s_M0 _
                      refine s_ek_bk 3 (P := 36) (ls' := [(0, .ref 151), (1, .int 0), (2, .int b), (3, .int c)]) (st' := [.int 0, .int b]) (M' := s_M0) rfl ?_
                      refine s_ek_if2 (T := 49) rfl rfl (fun h10 => ?_) (fun h10 => ?_)
                      · replace h10 : b.toInt = 0 := h10
                        refine s_ek_bk 1 (P := 50) (ls' := [(0, .ref 151), (1, .int 0), (2, .int b), (3, .int c)]) (st' := [.int (-1)]) (M' := s_M0) rfl ?_
                        refine s_ek_ret (o := some (.int (-1))) (fun _ => rfl) ?_
                        exact rfl
                      · replace h10 : ¬ (b.toInt = 0) := h10
                        replace h10 : ¬ b.toInt = 0 := by omega
                        omega
                · replace h7 : ¬ (¬ b.toInt = (-1)) := h7
                  replace h7 : b.toInt = (-1) := by omega
                  omega
              · replace h6 : ¬ (b.toInt = 0) := h6
                replace h6 : ¬ b.toInt = 0 := by omega
                refine s_ek_bk 1 (P := 42) (ls' := [(0, .ref 0), (1, .int 0), (2, .int b), (3, .int c)]) (st' := [.int c]) (M' := s_M0) rfl ?_
                refine s_ek_call (ν := s_e169.1) (P := 45) (as := [.int c]) (r := []) (fun _ => rfl) rfl ?_
                show s_Ek (s_rows 3 L xs) 1298 s_e169.1 0 [(0, .int c)] [] s_M0 _
                refine s_ek_bk 1 (P := 1) (ls' := [(0, .int c)]) (st' := [.int c]) (M' := s_M0) rfl ?_
                refine s_ek_if1 (T := 14) rfl rfl (fun h7 => ?_) (fun h7 => ?_)
                · replace h7 : c.toInt < 0 := h7
                  refine s_ek_bk 1 (P := 15) (ls' := [(0, .int c)]) (st' := [.int 0]) (M' := s_M0) rfl ?_
                  refine s_ek_ret (o := some (.int 0)) (fun _ => rfl) ?_
                  show s_Ek (s_rows 3 L xs) 1299 s_e140.1 45 [(0, .ref 0), (1, .int 0), (2, .int b), (3, .int c)] [.int 0] s_M0 _
                  refine s_ek_bk 2 (P := 49) (ls' := [(0, .ref 0), (1, .int 0), (2, .int b), (3, .int c)]) (st' := [.int (-1)]) (M' := s_M0) rfl ?_
                  refine s_ek_ret (o := some (.int (-1))) (fun _ => rfl) ?_
                  refine ⟨(-1), rfl, ?_⟩
                  show s_Ek (s_rows 3 L xs) 1299 s_e214.1 0 [(0, .ref 151), (1, .int 0), (2, .int b), (3, .int c)] [] s_M0 _
                  refine s_ek_bk 3 (P := 3) (ls' := [(0, .ref 151), (1, .int 0), (2, .int b), (3, .int c)]) (st' := [.int 2, .int 0, .int 0]) (M' := s_M0) rfl ?_
                  refine s_ek_call (ν := s_e181.1) (P := 6) (as := [.int 0, .int 0, .int 2]) (r := []) (fun _ => rfl) rfl ?_
                  show s_Ek (s_rows 3 L xs) 1298 s_e181.1 0 [(0, .int 0), (1, .int 0), (2, .int 2)] [] s_M0 _
                  refine s_ek_bk 8 (P := 15) (ls' := [(0, .int 0), (1, .int 0), (2, .int 2)]) (st' := [.int 1]) (M' := s_M0) rfl ?_
                  refine s_ek_ret (o := some (.int 1)) (fun _ => rfl) ?_
                  show s_Ek (s_rows 3 L xs) 1299 s_e214.1 6 [(0, .ref 151), (1, .int 0), (2, .int b), (3, .int c)] [.int 1] s_M0 _
                  refine s_ek_bk 3 (P := 13) (ls' := [(0, .ref 151), (1, .int 0), (2, .int b), (3, .int c)]) (st' := [.int (-1), .int b]) (M' := s_M0) rfl ?_
                  refine s_ek_if2 (T := 25) rfl rfl (fun h8 => ?_) (fun h8 => ?_)
                  · replace h8 : ¬ b.toInt = (-1) := h8
                    refine s_ek_bk 3 (P := 28) (ls' := [(0, .ref 151), (1, .int 0), (2, .int b), (3, .int c)]) (st' := [.int 2, .int 0, .int b]) (M' := s_M0) rfl ?_
                    refine s_ek_call (ν := s_e181.1) (P := 31) (as := [.int b, .int 0, .int 2]) (r := []) (fun _ => rfl) rfl ?_
                    show s_Ek (s_rows 3 L xs) 1298 s_e181.1 0 [(0, .int b), (1, .int 0), (2, .int 2)] [] s_M0 _
                    refine s_ek_bk 2 (P := 2) (ls' := [(0, .int b), (1, .int 0), (2, .int 2)]) (st' := [.int 0, .int b]) (M' := s_M0) rfl ?_
                    refine s_ek_if2 (T := 14) rfl rfl (fun h9 => ?_) (fun h9 => ?_)
                    · replace h9 : b.toInt < 0 := h9
                      omega
                    · replace h9 : ¬ (b.toInt < 0) := h9
                      replace h9 : 0 ≤ b.toInt := by omega
                      refine s_ek_bk 2 (P := 7) (ls' := [(0, .int b), (1, .int 0), (2, .int 2)]) (st' := [.int 2, .int b]) (M' := s_M0) rfl ?_
                      refine s_ek_if2 (T := 14) rfl rfl (fun h10 => ?_) (fun h10 => ?_)
                      · replace h10 : 2 < b.toInt := h10
                        omega
                      · replace h10 : ¬ (2 < b.toInt) := h10
                        replace h10 : b.toInt ≤ 2 := by omega
                        refine s_ek_bk 2 (P := 15) (ls' := [(0, .int b), (1, .int 0), (2, .int 2)]) (st' := [.int 1]) (M' := s_M0) rfl ?_
                        refine s_ek_ret (o := some (.int 1)) (fun _ => rfl) ?_
                        show s_Ek (s_rows 3 L xs) 1299 s_e214.1 31 [(0, .ref 151), (1, .int 0), (2, .int b), (3, .int c)] [.int 1] s_M0 _
                        refine s_ek_bk 3 (P := 36) (ls' := [(0, .ref 151), (1, .int 0), (2, .int b), (3, .int c)]) (st' := [.int 0, .int b]) (M' := s_M0) rfl ?_
                        refine s_ek_if2 (T := 49) rfl rfl (fun h11 => ?_) (fun h11 => ?_)
                        · replace h11 : b.toInt = 0 := h11
                          omega
                        · replace h11 : ¬ (b.toInt = 0) := h11
                          replace h11 : ¬ b.toInt = 0 := by omega
                          refine s_ek_bk 3 (P := 43) (ls' := [(0, .ref 151), (1, .int 0), (2, .int b), (3, .int c)]) (st' := [.int 99, .int 0, .int c]) (M' := s_M0) rfl ?_
                          refine s_ek_call (ν := s_e181.1) (P := 46) (as := [.int c, .int 0, .int 99]) (r := []) (fun _ => rfl) rfl ?_
                          show s_Ek (s_rows 3 L xs) 1298 s_e181.1 0 [(0, .int c), (1, .int 0), (2, .int 99)] [] s_M0 _
                          refine s_ek_bk 2 (P := 2) (ls' := [(0, .int c), (1, .int 0), (2, .int 99)]) (st' := [.int 0, .int c]) (M' := s_M0) rfl ?_
                          refine s_ek_if2 (T := 14) rfl rfl (fun h12 => ?_) (fun h12 => ?_)
                          · replace h12 : c.toInt < 0 := h12
                            refine s_ek_bk 1 (P := 15) (ls' := [(0, .int c), (1, .int 0), (2, .int 99)]) (st' := [.int 0]) (M' := s_M0) rfl ?_
                            refine s_ek_ret (o := some (.int 0)) (fun _ => rfl) ?_
                            show s_Ek (s_rows 3 L xs) 1299 s_e214.1 46 [(0, .ref 151), (1, .int 0), (2, .int b), (3, .int c)] [.int 0] s_M0 _
                            refine s_ek_bk 2 (P := 50) (ls' := [(0, .ref 151), (1, .int 0), (2, .int b), (3, .int c)]) (st' := [.int (-1)]) (M' := s_M0) rfl ?_
                            refine s_ek_ret (o := some (.int (-1))) (fun _ => rfl) ?_
                            exact rfl
                          · replace h12 : ¬ (c.toInt < 0) := h12
                            replace h12 : 0 ≤ c.toInt := by omega
                            omega
                  · replace h8 : ¬ (¬ b.toInt = (-1)) := h8
                    replace h8 : b.toInt = (-1) := by omega
                    omega
                · replace h7 : ¬ (c.toInt < 0) := h7
                  replace h7 : 0 ≤ c.toInt := by omega
                  refine s_ek_bk 2 (P := 7) (ls' := [(0, .int c)]) (st' := [.int 99, .int c]) (M' := s_M0) rfl ?_
                  refine s_ek_if2 (T := 14) rfl rfl (fun h8 => ?_) (fun h8 => ?_)
                  · replace h8 : 99 < c.toInt := h8
                    refine s_ek_bk 1 (P := 15) (ls' := [(0, .int c)]) (st' := [.int 0]) (M' := s_M0) rfl ?_
                    refine s_ek_ret (o := some (.int 0)) (fun _ => rfl) ?_
                    show s_Ek (s_rows 3 L xs) 1299 s_e140.1 45 [(0, .ref 0), (1, .int 0), (2, .int b), (3, .int c)] [.int 0] s_M0 _
                    refine s_ek_bk 2 (P := 49) (ls' := [(0, .ref 0), (1, .int 0), (2, .int b), (3, .int c)]) (st' := [.int (-1)]) (M' := s_M0) rfl ?_
                    refine s_ek_ret (o := some (.int (-1))) (fun _ => rfl) ?_
                    refine ⟨(-1), rfl, ?_⟩
                    show s_Ek (s_rows 3 L xs) 1299 s_e214.1 0 [(0, .ref 151), (1, .int 0), (2, .int b), (3, .int c)] [] s_M0 _
                    refine s_ek_bk 3 (P := 3) (ls' := [(0, .ref 151), (1, .int 0), (2, .int b), (3, .int c)]) (st' := [.int 2, .int 0, .int 0]) (M' := s_M0) rfl ?_
                    refine s_ek_call (ν := s_e181.1) (P := 6) (as := [.int 0, .int 0, .int 2]) (r := []) (fun _ => rfl) rfl ?_
                    show s_Ek (s_rows 3 L xs) 1298 s_e181.1 0 [(0, .int 0), (1, .int 0), (2, .int 2)] [] s_M0 _
                    refine s_ek_bk 8 (P := 15) (ls' := [(0, .int 0), (1, .int 0), (2, .int 2)]) (st' := [.int 1]) (M' := s_M0) rfl ?_
                    refine s_ek_ret (o := some (.int 1)) (fun _ => rfl) ?_
                    show s_Ek (s_rows 3 L xs) 1299 s_e214.1 6 [(0, .ref 151), (1, .int 0), (2, .int b), (3, .int c)] [.int 1] s_M0 _
                    refine s_ek_bk 3 (P := 13) (ls' := [(0, .ref 151), (1, .int 0), (2, .int b), (3, .int c)]) (st' := [.int (-1), .int b]) (M' := s_M0) rfl ?_
                    refine s_ek_if2 (T := 25) rfl rfl (fun h9 => ?_) (fun h9 => ?_)
                    · replace h9 : ¬ b.toInt = (-1) := h9
                      refine s_ek_bk 3 (P := 28) (ls' := [(0, .ref 151), (1, .int 0), (2, .int b), (3, .int c)]) (st' := [.int 2, .int 0, .int b]) (M' := s_M0) rfl ?_
                      refine s_ek_call (ν := s_e181.1) (P := 31) (as := [.int b, .int 0, .int 2]) (r := []) (fun _ => rfl) rfl ?_
                      show s_Ek (s_rows 3 L xs) 1298 s_e181.1 0 [(0, .int b), (1, .int 0), (2, .int 2)] [] s_M0 _
                      refine s_ek_bk 2 (P := 2) (ls' := [(0, .int b), (1, .int 0), (2, .int 2)]) (st' := [.int 0, .int b]) (M' := s_M0) rfl ?_
                      refine s_ek_if2 (T := 14) rfl rfl (fun h10 => ?_) (fun h10 => ?_)
                      · replace h10 : b.toInt < 0 := h10
                        omega
                      · replace h10 : ¬ (b.toInt < 0) := h10
                        replace h10 : 0 ≤ b.toInt := by omega
                        refine s_ek_bk 2 (P := 7) (ls' := [(0, .int b), (1, .int 0), (2, .int 2)]) (st' := [.int 2, .int b]) (M' := s_M0) rfl ?_
                        refine s_ek_if2 (T := 14) rfl rfl (fun h11 => ?_) (fun h11 => ?_)
                        · replace h11 : 2 < b.toInt := h11
                          omega
                        · replace h11 : ¬ (2 < b.toInt) := h11
                          replace h11 : b.toInt ≤ 2 := by omega
                          refine s_ek_bk 2 (P := 15) (ls' := [(0, .int b), (1, .int 0), (2, .int 2)]) (st' := [.int 1]) (M' := s_M0) rfl ?_
                          refine s_ek_ret (o := some (.int 1)) (fun _ => rfl) ?_
                          show s_Ek (s_rows 3 L xs) 1299 s_e214.1 31 [(0, .ref 151), (1, .int 0), (2, .int b), (3, .int c)] [.int 1] s_M0 _
                          refine s_ek_bk 3 (P := 36) (ls' := [(0, .ref 151), (1, .int 0), (2, .int b), (3, .int c)]) (st' := [.int 0, .int b]) (M' := s_M0) rfl ?_
                          refine s_ek_if2 (T := 49) rfl rfl (fun h12 => ?_) (fun h12 => ?_)
                          · replace h12 : b.toInt = 0 := h12
                            omega
                          · replace h12 : ¬ (b.toInt = 0) := h12
                            replace h12 : ¬ b.toInt = 0 := by omega
                            refine s_ek_bk 3 (P := 43) (ls' := [(0, .ref 151), (1, .int 0), (2, .int b), (3, .int c)]) (st' := [.int 99, .int 0, .int c]) (M' := s_M0) rfl ?_
                            refine s_ek_call (ν := s_e181.1) (P := 46) (as := [.int c, .int 0, .int 99]) (r := []) (fun _ => rfl) rfl ?_
                            show s_Ek (s_rows 3 L xs) 1298 s_e181.1 0 [(0, .int c), (1, .int 0), (2, .int 99)] [] s_M0 _
                            refine s_ek_bk 2 (P := 2) (ls' := [(0, .int c), (1, .int 0), (2, .int 99)]) (st' := [.int 0, .int c]) (M' := s_M0) rfl ?_
                            refine s_ek_if2 (T := 14) rfl rfl (fun h13 => ?_) (fun h13 => ?_)
                            · replace h13 : c.toInt < 0 := h13
                              omega
                            · replace h13 : ¬ (c.toInt < 0) := h13
                              replace h13 : 0 ≤ c.toInt := by omega
                              refine s_ek_bk 2 (P := 7) (ls' := [(0, .int c), (1, .int 0), (2, .int 99)]) (st' := [.int 99, .int c]) (M' := s_M0) rfl ?_
                              refine s_ek_if2 (T := 14) rfl rfl (fun h14 => ?_) (fun h14 => ?_)
                              · replace h14 : 99 < c.toInt := h14
                                refine s_ek_bk 1 (P := 15) (ls' := [(0, .int c), (1, .int 0), (2, .int 99)]) (st' := [.int 0]) (M' := s_M0) rfl ?_
                                refine s_ek_ret (o := some (.int 0)) (fun _ => rfl) ?_
                                show s_Ek (s_rows 3 L xs) 1299 s_e214.1 46 [(0, .ref 151), (1, .int 0), (2, .int b), (3, .int c)] [.int 0] s_M0 _
                                refine s_ek_bk 2 (P := 50) (ls' := [(0, .ref 151), (1, .int 0), (2, .int b), (3, .int c)]) (st' := [.int (-1)]) (M' := s_M0) rfl ?_
                                refine s_ek_ret (o := some (.int (-1))) (fun _ => rfl) ?_
                                exact rfl
                              · replace h14 : ¬ (99 < c.toInt) := h14
                                replace h14 : c.toInt ≤ 99 := by omega
                                omega
                    · replace h9 : ¬ (¬ b.toInt = (-1)) := h9
                      replace h9 : b.toInt = (-1) := by omega
                      omega
                  · replace h8 : ¬ (99 < c.toInt) := h8
                    replace h8 : c.toInt ≤ 99 := by omega
                    refine s_ek_bk 2 (P := 15) (ls' := [(0, .int c)]) (st' := [.int 1]) (M' := s_M0) rfl ?_
                    refine s_ek_ret (o := some (.int 1)) (fun _ => rfl) ?_
                    show s_Ek (s_rows 3 L xs) 1299 s_e140.1 45 [(0, .ref 0), (1, .int 0), (2, .int b), (3, .int c)] [.int 1] s_M0 _
                    refine s_ek_bk 7 (P := 60) (ls' := [(0, .ref 0), (1, .int 0), (2, .int b), (3, .int c)]) (st' := [.int c, .int b, .int 0, .ref 9]) (M' := s_M0) rfl ?_
                    refine s_ek_call (ν := s_e127.1) (P := 63) (as := [.ref 9, .int 0, .int b, .int c]) (r := []) (fun _ => rfl) rfl ?_
                    show s_Ek (s_rows 3 L xs) 1298 s_e127.1 0 [(0, .ref 9), (1, .int 0), (2, .int b), (3, .int c)] [] s_M0 _
                    refine s_ek_bk 10 (P := 16) (ls' := [(0, .ref 9), (1, .int 0), (2, .int b), (3, .int c)]) (st' := []) (M' := (s_M0.set 10 (13, ([Value.int (-1), Value.int (-1), Value.int (-1)].set 0 (Value.int b))))) rfl ?_
                    refine s_ek_bk 5 (P := 23) (ls' := [(0, .ref 9), (1, .int 0), (2, .int b), (3, .int c)]) (st' := []) (M' := ((s_M0.set 10 (13, ([Value.int (-1), Value.int (-1), Value.int (-1)].set 0 (Value.int b)))).set 11 (13, ([Value.int 0, Value.int 0, Value.int 0].set 0 (Value.int c))))) rfl ?_
                    refine s_ek_ret (o := none) (fun _ => rfl) ?_
                    show s_Ek (s_rows 3 L xs) 1299 s_e140.1 63 [(0, .ref 0), (1, .int 0), (2, .int b), (3, .int c)] [] ((s_M0.set 10 (13, ([Value.int (-1), Value.int (-1), Value.int (-1)].set 0 (Value.int b)))).set 11 (13, ([Value.int 0, Value.int 0, Value.int 0].set 0 (Value.int c)))) _
                    refine s_ek_bk 1 (P := 64) (ls' := [(0, .ref 0), (1, .int 0), (2, .int b), (3, .int c)]) (st' := [.int 1]) (M' := ((s_M0.set 10 (13, ([Value.int (-1), Value.int (-1), Value.int (-1)].set 0 (Value.int b)))).set 11 (13, ([Value.int 0, Value.int 0, Value.int 0].set 0 (Value.int c))))) rfl ?_
                    refine s_ek_ret (o := some (.int 1)) (fun _ => rfl) ?_
                    refine ⟨1, rfl, ?_⟩
                    show s_Ek (s_rows 3 L xs) 1299 s_e214.1 0 [(0, .ref 151), (1, .int 0), (2, .int b), (3, .int c)] [] ((s_M0.set 10 (13, ([Value.int (-1), Value.int (-1), Value.int (-1)].set 0 (Value.int b)))).set 11 (13, ([Value.int 0, Value.int 0, Value.int 0].set 0 (Value.int c)))) _
                    refine s_ek_bk 3 (P := 3) (ls' := [(0, .ref 151), (1, .int 0), (2, .int b), (3, .int c)]) (st' := [.int 2, .int 0, .int 0]) (M' := ((s_M0.set 10 (13, ([Value.int (-1), Value.int (-1), Value.int (-1)].set 0 (Value.int b)))).set 11 (13, ([Value.int 0, Value.int 0, Value.int 0].set 0 (Value.int c))))) rfl ?_
                    refine s_ek_call (ν := s_e181.1) (P := 6) (as := [.int 0, .int 0, .int 2]) (r := []) (fun _ => rfl) rfl ?_
                    show s_Ek (s_rows 3 L xs) 1298 s_e181.1 0 [(0, .int 0), (1, .int 0), (2, .int 2)] [] ((s_M0.set 10 (13, ([Value.int (-1), Value.int (-1), Value.int (-1)].set 0 (Value.int b)))).set 11 (13, ([Value.int 0, Value.int 0, Value.int 0].set 0 (Value.int c)))) _
                    refine s_ek_bk 8 (P := 15) (ls' := [(0, .int 0), (1, .int 0), (2, .int 2)]) (st' := [.int 1]) (M' := ((s_M0.set 10 (13, ([Value.int (-1), Value.int (-1), Value.int (-1)].set 0 (Value.int b)))).set 11 (13, ([Value.int 0, Value.int 0, Value.int 0].set 0 (Value.int c))))) rfl ?_
                    refine s_ek_ret (o := some (.int 1)) (fun _ => rfl) ?_
                    show s_Ek (s_rows 3 L xs) 1299 s_e214.1 6 [(0, .ref 151), (1, .int 0), (2, .int b), (3, .int c)] [.int 1] ((s_M0.set 10 (13, ([Value.int (-1), Value.int (-1), Value.int (-1)].set 0 (Value.int b)))).set 11 (13, ([Value.int 0, Value.int 0, Value.int 0].set 0 (Value.int c)))) _
                    refine s_ek_bk 3 (P := 13) (ls' := [(0, .ref 151), (1, .int 0), (2, .int b), (3, .int c)]) (st' := [.int (-1), .int b]) (M' := ((s_M0.set 10 (13, ([Value.int (-1), Value.int (-1), Value.int (-1)].set 0 (Value.int b)))).set 11 (13, ([Value.int 0, Value.int 0, Value.int 0].set 0 (Value.int c))))) rfl ?_
                    refine s_ek_if2 (T := 25) rfl rfl (fun h9 => ?_) (fun h9 => ?_)
                    · replace h9 : ¬ b.toInt = (-1) := h9
                      refine s_ek_bk 3 (P := 28) (ls' := [(0, .ref 151), (1, .int 0), (2, .int b), (3, .int c)]) (st' := [.int 2, .int 0, .int b]) (M' := ((s_M0.set 10 (13, ([Value.int (-1), Value.int (-1), Value.int (-1)].set 0 (Value.int b)))).set 11 (13, ([Value.int 0, Value.int 0, Value.int 0].set 0 (Value.int c))))) rfl ?_
                      refine s_ek_call (ν := s_e181.1) (P := 31) (as := [.int b, .int 0, .int 2]) (r := []) (fun _ => rfl) rfl ?_
                      show s_Ek (s_rows 3 L xs) 1298 s_e181.1 0 [(0, .int b), (1, .int 0), (2, .int 2)] [] ((s_M0.set 10 (13, ([Value.int (-1), Value.int (-1), Value.int (-1)].set 0 (Value.int b)))).set 11 (13, ([Value.int 0, Value.int 0, Value.int 0].set 0 (Value.int c)))) _
                      refine s_ek_bk 2 (P := 2) (ls' := [(0, .int b), (1, .int 0), (2, .int 2)]) (st' := [.int 0, .int b]) (M' := ((s_M0.set 10 (13, ([Value.int (-1), Value.int (-1), Value.int (-1)].set 0 (Value.int b)))).set 11 (13, ([Value.int 0, Value.int 0, Value.int 0].set 0 (Value.int c))))) rfl ?_
                      refine s_ek_if2 (T := 14) rfl rfl (fun h10 => ?_) (fun h10 => ?_)
                      · replace h10 : b.toInt < 0 := h10
                        omega
                      · replace h10 : ¬ (b.toInt < 0) := h10
                        replace h10 : 0 ≤ b.toInt := by omega
                        refine s_ek_bk 2 (P := 7) (ls' := [(0, .int b), (1, .int 0), (2, .int 2)]) (st' := [.int 2, .int b]) (M' := ((s_M0.set 10 (13, ([Value.int (-1), Value.int (-1), Value.int (-1)].set 0 (Value.int b)))).set 11 (13, ([Value.int 0, Value.int 0, Value.int 0].set 0 (Value.int c))))) rfl ?_
                        refine s_ek_if2 (T := 14) rfl rfl (fun h11 => ?_) (fun h11 => ?_)
                        · replace h11 : 2 < b.toInt := h11
                          omega
                        · replace h11 : ¬ (2 < b.toInt) := h11
                          replace h11 : b.toInt ≤ 2 := by omega
                          refine s_ek_bk 2 (P := 15) (ls' := [(0, .int b), (1, .int 0), (2, .int 2)]) (st' := [.int 1]) (M' := ((s_M0.set 10 (13, ([Value.int (-1), Value.int (-1), Value.int (-1)].set 0 (Value.int b)))).set 11 (13, ([Value.int 0, Value.int 0, Value.int 0].set 0 (Value.int c))))) rfl ?_
                          refine s_ek_ret (o := some (.int 1)) (fun _ => rfl) ?_
                          show s_Ek (s_rows 3 L xs) 1299 s_e214.1 31 [(0, .ref 151), (1, .int 0), (2, .int b), (3, .int c)] [.int 1] ((s_M0.set 10 (13, ([Value.int (-1), Value.int (-1), Value.int (-1)].set 0 (Value.int b)))).set 11 (13, ([Value.int 0, Value.int 0, Value.int 0].set 0 (Value.int c)))) _
                          refine s_ek_bk 3 (P := 36) (ls' := [(0, .ref 151), (1, .int 0), (2, .int b), (3, .int c)]) (st' := [.int 0, .int b]) (M' := ((s_M0.set 10 (13, ([Value.int (-1), Value.int (-1), Value.int (-1)].set 0 (Value.int b)))).set 11 (13, ([Value.int 0, Value.int 0, Value.int 0].set 0 (Value.int c))))) rfl ?_
                          refine s_ek_if2 (T := 49) rfl rfl (fun h12 => ?_) (fun h12 => ?_)
                          · replace h12 : b.toInt = 0 := h12
                            omega
                          · replace h12 : ¬ (b.toInt = 0) := h12
                            replace h12 : ¬ b.toInt = 0 := by omega
                            refine s_ek_bk 3 (P := 43) (ls' := [(0, .ref 151), (1, .int 0), (2, .int b), (3, .int c)]) (st' := [.int 99, .int 0, .int c]) (M' := ((s_M0.set 10 (13, ([Value.int (-1), Value.int (-1), Value.int (-1)].set 0 (Value.int b)))).set 11 (13, ([Value.int 0, Value.int 0, Value.int 0].set 0 (Value.int c))))) rfl ?_
                            refine s_ek_call (ν := s_e181.1) (P := 46) (as := [.int c, .int 0, .int 99]) (r := []) (fun _ => rfl) rfl ?_
                            show s_Ek (s_rows 3 L xs) 1298 s_e181.1 0 [(0, .int c), (1, .int 0), (2, .int 99)] [] ((s_M0.set 10 (13, ([Value.int (-1), Value.int (-1), Value.int (-1)].set 0 (Value.int b)))).set 11 (13, ([Value.int 0, Value.int 0, Value.int 0].set 0 (Value.int c)))) _
                            refine s_ek_bk 2 (P := 2) (ls' := [(0, .int c), (1, .int 0), (2, .int 99)]) (st' := [.int 0, .int c]) (M' := ((s_M0.set 10 (13, ([Value.int (-1), Value.int (-1), Value.int (-1)].set 0 (Value.int b)))).set 11 (13, ([Value.int 0, Value.int 0, Value.int 0].set 0 (Value.int c))))) rfl ?_
                            refine s_ek_if2 (T := 14) rfl rfl (fun h13 => ?_) (fun h13 => ?_)
                            · replace h13 : c.toInt < 0 := h13
                              omega
                            · replace h13 : ¬ (c.toInt < 0) := h13
                              replace h13 : 0 ≤ c.toInt := by omega
                              refine s_ek_bk 2 (P := 7) (ls' := [(0, .int c), (1, .int 0), (2, .int 99)]) (st' := [.int 99, .int c]) (M' := ((s_M0.set 10 (13, ([Value.int (-1), Value.int (-1), Value.int (-1)].set 0 (Value.int b)))).set 11 (13, ([Value.int 0, Value.int 0, Value.int 0].set 0 (Value.int c))))) rfl ?_
                              refine s_ek_if2 (T := 14) rfl rfl (fun h14 => ?_) (fun h14 => ?_)
                              · replace h14 : 99 < c.toInt := h14
                                omega
                              · replace h14 : ¬ (99 < c.toInt) := h14
                                replace h14 : c.toInt ≤ 99 := by omega
                                refine s_ek_bk 2 (P := 15) (ls' := [(0, .int c), (1, .int 0), (2, .int 99)]) (st' := [.int 1]) (M' := ((s_M0.set 10 (13, ([Value.int (-1), Value.int (-1), Value.int (-1)].set 0 (Value.int b)))).set 11 (13, ([Value.int 0, Value.int 0, Value.int 0].set 0 (Value.int c))))) rfl ?_
                                refine s_ek_ret (o := some (.int 1)) (fun _ => rfl) ?_
                                show s_Ek (s_rows 3 L xs) 1299 s_e214.1 46 [(0, .ref 151), (1, .int 0), (2, .int b), (3, .int c)] [.int 1] ((s_M0.set 10 (13, ([Value.int (-1), Value.int (-1), Value.int (-1)].set 0 (Value.int b)))).set 11 (13, ([Value.int 0, Value.int 0, Value.int 0].set 0 (Value.int c)))) _
                                refine s_ek_bk 6 (P := 58) (ls' := [(0, .ref 151), (1, .int 0), (2, .int b), (3, .int c)]) (st' := []) (M' := (((s_M0.set 10 (13, ([Value.int (-1), Value.int (-1), Value.int (-1)].set 0 (Value.int b)))).set 11 (13, ([Value.int 0, Value.int 0, Value.int 0].set 0 (Value.int c)))).set 163 (13, ([Value.int (-1), Value.int (-1), Value.int (-1)].set 0 (Value.int b))))) rfl ?_
                                refine s_ek_bk 5 (P := 65) (ls' := [(0, .ref 151), (1, .int 0), (2, .int b), (3, .int c)]) (st' := []) (M' := ((((s_M0.set 10 (13, ([Value.int (-1), Value.int (-1), Value.int (-1)].set 0 (Value.int b)))).set 11 (13, ([Value.int 0, Value.int 0, Value.int 0].set 0 (Value.int c)))).set 163 (13, ([Value.int (-1), Value.int (-1), Value.int (-1)].set 0 (Value.int b)))).set 164 (13, ([Value.int 0, Value.int 0, Value.int 0].set 0 (Value.int c))))) rfl ?_
                                refine s_ek_bk 1 (P := 66) (ls' := [(0, .ref 151), (1, .int 0), (2, .int b), (3, .int c)]) (st' := [.int 1]) (M' := ((((s_M0.set 10 (13, ([Value.int (-1), Value.int (-1), Value.int (-1)].set 0 (Value.int b)))).set 11 (13, ([Value.int 0, Value.int 0, Value.int 0].set 0 (Value.int c)))).set 163 (13, ([Value.int (-1), Value.int (-1), Value.int (-1)].set 0 (Value.int b)))).set 164 (13, ([Value.int 0, Value.int 0, Value.int 0].set 0 (Value.int c))))) rfl ?_
                                refine s_ek_ret (o := some (.int 1)) (fun _ => rfl) ?_
                                exact rfl
                    · replace h9 : ¬ (¬ b.toInt = (-1)) := h9
                      replace h9 : b.toInt = (-1) := by omega
                      omega
            · refine s_ek_if2 (T := 48) rfl rfl (fun h6 => ?_) (fun h6 => ?_)
              · replace h6 : b.toInt = 1 := h6
                refine s_ek_bk 1 (P := 49) (ls' := [(0, .ref 0), (1, .int 1), (2, .int b), (3, .int c)]) (st' := [.int (-1)]) (M' := s_M0) rfl ?_
                refine s_ek_ret (o := some (.int (-1))) (fun _ => rfl) ?_
                refine ⟨(-1), rfl, ?_⟩
                show s_Ek (s_rows 3 L xs) 1299 s_e214.1 0 [(0, .ref 151), (1, .int 1), (2, .int b), (3, .int c)] [] s_M0 _
                refine s_ek_bk 3 (P := 3) (ls' := [(0, .ref 151), (1, .int 1), (2, .int b), (3, .int c)]) (st' := [.int 2, .int 0, .int 1]) (M' := s_M0) rfl ?_
                refine s_ek_call (ν := s_e181.1) (P := 6) (as := [.int 1, .int 0, .int 2]) (r := []) (fun _ => rfl) rfl ?_
                show s_Ek (s_rows 3 L xs) 1298 s_e181.1 0 [(0, .int 1), (1, .int 0), (2, .int 2)] [] s_M0 _
                refine s_ek_bk 8 (P := 15) (ls' := [(0, .int 1), (1, .int 0), (2, .int 2)]) (st' := [.int 1]) (M' := s_M0) rfl ?_
                refine s_ek_ret (o := some (.int 1)) (fun _ => rfl) ?_
                show s_Ek (s_rows 3 L xs) 1299 s_e214.1 6 [(0, .ref 151), (1, .int 1), (2, .int b), (3, .int c)] [.int 1] s_M0 _
                refine s_ek_bk 3 (P := 13) (ls' := [(0, .ref 151), (1, .int 1), (2, .int b), (3, .int c)]) (st' := [.int (-1), .int b]) (M' := s_M0) rfl ?_
                refine s_ek_if2 (T := 25) rfl rfl (fun h7 => ?_) (fun h7 => ?_)
                · replace h7 : ¬ b.toInt = (-1) := h7
                  refine s_ek_bk 3 (P := 28) (ls' := [(0, .ref 151), (1, .int 1), (2, .int b), (3, .int c)]) (st' := [.int 2, .int 0, .int b]) (M' := s_M0) rfl ?_
                  refine s_ek_call (ν := s_e181.1) (P := 31) (as := [.int b, .int 0, .int 2]) (r := []) (fun _ => rfl) rfl ?_
                  show s_Ek (s_rows 3 L xs) 1298 s_e181.1 0 [(0, .int b), (1, .int 0), (2, .int 2)] [] s_M0 _
                  refine s_ek_bk 2 (P := 2) (ls' := [(0, .int b), (1, .int 0), (2, .int 2)]) (st' := [.int 0, .int b]) (M' := s_M0) rfl ?_
                  refine s_ek_if2 (T := 14) rfl rfl (fun h8 => ?_) (fun h8 => ?_)
                  · replace h8 : b.toInt < 0 := h8
                    omega
                  · replace h8 : ¬ (b.toInt < 0) := h8
                    replace h8 : 0 ≤ b.toInt := by omega
                    refine s_ek_bk 2 (P := 7) (ls' := [(0, .int b), (1, .int 0), (2, .int 2)]) (st' := [.int 2, .int b]) (M' := s_M0) rfl ?_
                    refine s_ek_if2 (T := 14) rfl rfl (fun h9 => ?_) (fun h9 => ?_)
                    · replace h9 : 2 < b.toInt := h9
                      omega
                    · replace h9 : ¬ (2 < b.toInt) := h9
                      replace h9 : b.toInt ≤ 2 := by omega
                      refine s_ek_bk 2 (P := 15) (ls' := [(0, .int b), (1, .int 0), (2, .int 2)]) (st' := [.int 1]) (M' := s_M0) rfl ?_
                      refine s_ek_ret (o := some (.int 1)) (fun _ => rfl) ?_
                      show s_Ek (s_rows 3 L xs) 1299 s_e214.1 31 [(0, .ref 151), (1, .int 1), (2, .int b), (3, .int c)] [.int 1] s_M0 _
                      refine s_ek_bk 3 (P := 36) (ls' := [(0, .ref 151), (1, .int 1), (2, .int b), (3, .int c)]) (st' := [.int 1, .int b]) (M' := s_M0) rfl ?_
                      refine s_ek_if2 (T := 49) rfl rfl (fun h10 => ?_) (fun h10 => ?_)
                      · replace h10 : b.toInt = 1 := h10
                        refine s_ek_bk 1 (P := 50) (ls' := [(0, .ref 151), (1, .int 1), (2, .int b), (3, .int c)]) (st' := [.int (-1)]) (M' := s_M0) rfl ?_
                        refine s_ek_ret (o := some (.int (-1))) (fun _ => rfl) ?_
                        exact rfl
                      · replace h10 : ¬ (b.toInt = 1) := h10
                        replace h10 : ¬ b.toInt = 1 := by omega
                        omega
                · replace h7 : ¬ (¬ b.toInt = (-1)) := h7
                  replace h7 : b.toInt = (-1) := by omega
                  omega
              · replace h6 : ¬ (b.toInt = 1) := h6
                replace h6 : ¬ b.toInt = 1 := by omega
                refine s_ek_bk 1 (P := 42) (ls' := [(0, .ref 0), (1, .int 1), (2, .int b), (3, .int c)]) (st' := [.int c]) (M' := s_M0) rfl ?_
                refine s_ek_call (ν := s_e169.1) (P := 45) (as := [.int c]) (r := []) (fun _ => rfl) rfl ?_
                show s_Ek (s_rows 3 L xs) 1298 s_e169.1 0 [(0, .int c)] [] s_M0 _
                refine s_ek_bk 1 (P := 1) (ls' := [(0, .int c)]) (st' := [.int c]) (M' := s_M0) rfl ?_
                refine s_ek_if1 (T := 14) rfl rfl (fun h7 => ?_) (fun h7 => ?_)
                · replace h7 : c.toInt < 0 := h7
                  refine s_ek_bk 1 (P := 15) (ls' := [(0, .int c)]) (st' := [.int 0]) (M' := s_M0) rfl ?_
                  refine s_ek_ret (o := some (.int 0)) (fun _ => rfl) ?_
                  show s_Ek (s_rows 3 L xs) 1299 s_e140.1 45 [(0, .ref 0), (1, .int 1), (2, .int b), (3, .int c)] [.int 0] s_M0 _
                  refine s_ek_bk 2 (P := 49) (ls' := [(0, .ref 0), (1, .int 1), (2, .int b), (3, .int c)]) (st' := [.int (-1)]) (M' := s_M0) rfl ?_
                  refine s_ek_ret (o := some (.int (-1))) (fun _ => rfl) ?_
                  refine ⟨(-1), rfl, ?_⟩
                  show s_Ek (s_rows 3 L xs) 1299 s_e214.1 0 [(0, .ref 151), (1, .int 1), (2, .int b), (3, .int c)] [] s_M0 _
                  refine s_ek_bk 3 (P := 3) (ls' := [(0, .ref 151), (1, .int 1), (2, .int b), (3, .int c)]) (st' := [.int 2, .int 0, .int 1]) (M' := s_M0) rfl ?_
                  refine s_ek_call (ν := s_e181.1) (P := 6) (as := [.int 1, .int 0, .int 2]) (r := []) (fun _ => rfl) rfl ?_
                  show s_Ek (s_rows 3 L xs) 1298 s_e181.1 0 [(0, .int 1), (1, .int 0), (2, .int 2)] [] s_M0 _
                  refine s_ek_bk 8 (P := 15) (ls' := [(0, .int 1), (1, .int 0), (2, .int 2)]) (st' := [.int 1]) (M' := s_M0) rfl ?_
                  refine s_ek_ret (o := some (.int 1)) (fun _ => rfl) ?_
                  show s_Ek (s_rows 3 L xs) 1299 s_e214.1 6 [(0, .ref 151), (1, .int 1), (2, .int b), (3, .int c)] [.int 1] s_M0 _
                  refine s_ek_bk 3 (P := 13) (ls' := [(0, .ref 151), (1, .int 1), (2, .int b), (3, .int c)]) (st' := [.int (-1), .int b]) (M' := s_M0) rfl ?_
                  refine s_ek_if2 (T := 25) rfl rfl (fun h8 => ?_) (fun h8 => ?_)
                  · replace h8 : ¬ b.toInt = (-1) := h8
                    refine s_ek_bk 3 (P := 28) (ls' := [(0, .ref 151), (1, .int 1), (2, .int b), (3, .int c)]) (st' := [.int 2, .int 0, .int b]) (M' := s_M0) rfl ?_
                    refine s_ek_call (ν := s_e181.1) (P := 31) (as := [.int b, .int 0, .int 2]) (r := []) (fun _ => rfl) rfl ?_
                    show s_Ek (s_rows 3 L xs) 1298 s_e181.1 0 [(0, .int b), (1, .int 0), (2, .int 2)] [] s_M0 _
                    refine s_ek_bk 2 (P := 2) (ls' := [(0, .int b), (1, .int 0), (2, .int 2)]) (st' := [.int 0, .int b]) (M' := s_M0) rfl ?_
                    refine s_ek_if2 (T := 14) rfl rfl (fun h9 => ?_) (fun h9 => ?_)
                    · replace h9 : b.toInt < 0 := h9
                      omega
                    · replace h9 : ¬ (b.toInt < 0) := h9
                      replace h9 : 0 ≤ b.toInt := by omega
                      refine s_ek_bk 2 (P := 7) (ls' := [(0, .int b), (1, .int 0), (2, .int 2)]) (st' := [.int 2, .int b]) (M' := s_M0) rfl ?_
                      refine s_ek_if2 (T := 14) rfl rfl (fun h10 => ?_) (fun h10 => ?_)
                      · replace h10 : 2 < b.toInt := h10
                        omega
                      · replace h10 : ¬ (2 < b.toInt) := h10
                        replace h10 : b.toInt ≤ 2 := by omega
                        refine s_ek_bk 2 (P := 15) (ls' := [(0, .int b), (1, .int 0), (2, .int 2)]) (st' := [.int 1]) (M' := s_M0) rfl ?_
                        refine s_ek_ret (o := some (.int 1)) (fun _ => rfl) ?_
                        show s_Ek (s_rows 3 L xs) 1299 s_e214.1 31 [(0, .ref 151), (1, .int 1), (2, .int b), (3, .int c)] [.int 1] s_M0 _
                        refine s_ek_bk 3 (P := 36) (ls' := [(0, .ref 151), (1, .int 1), (2, .int b), (3, .int c)]) (st' := [.int 1, .int b]) (M' := s_M0) rfl ?_
                        refine s_ek_if2 (T := 49) rfl rfl (fun h11 => ?_) (fun h11 => ?_)
                        · replace h11 : b.toInt = 1 := h11
                          omega
                        · replace h11 : ¬ (b.toInt = 1) := h11
                          replace h11 : ¬ b.toInt = 1 := by omega
                          refine s_ek_bk 3 (P := 43) (ls' := [(0, .ref 151), (1, .int 1), (2, .int b), (3, .int c)]) (st' := [.int 99, .int 0, .int c]) (M' := s_M0) rfl ?_
                          refine s_ek_call (ν := s_e181.1) (P := 46) (as := [.int c, .int 0, .int 99]) (r := []) (fun _ => rfl) rfl ?_
                          show s_Ek (s_rows 3 L xs) 1298 s_e181.1 0 [(0, .int c), (1, .int 0), (2, .int 99)] [] s_M0 _
                          refine s_ek_bk 2 (P := 2) (ls' := [(0, .int c), (1, .int 0), (2, .int 99)]) (st' := [.int 0, .int c]) (M' := s_M0) rfl ?_
                          refine s_ek_if2 (T := 14) rfl rfl (fun h12 => ?_) (fun h12 => ?_)
                          · replace h12 : c.toInt < 0 := h12
                            refine s_ek_bk 1 (P := 15) (ls' := [(0, .int c), (1, .int 0), (2, .int 99)]) (st' := [.int 0]) (M' := s_M0) rfl ?_
                            refine s_ek_ret (o := some (.int 0)) (fun _ => rfl) ?_
                            show s_Ek (s_rows 3 L xs) 1299 s_e214.1 46 [(0, .ref 151), (1, .int 1), (2, .int b), (3, .int c)] [.int 0] s_M0 _
                            refine s_ek_bk 2 (P := 50) (ls' := [(0, .ref 151), (1, .int 1), (2, .int b), (3, .int c)]) (st' := [.int (-1)]) (M' := s_M0) rfl ?_
                            refine s_ek_ret (o := some (.int (-1))) (fun _ => rfl) ?_
                            exact rfl
                          · replace h12 : ¬ (c.toInt < 0) := h12
                            replace h12 : 0 ≤ c.toInt := by omega
                            omega
                  · replace h8 : ¬ (¬ b.toInt = (-1)) := h8
                    replace h8 : b.toInt = (-1) := by omega
                    omega
                · replace h7 : ¬ (c.toInt < 0) := h7
                  replace h7 : 0 ≤ c.toInt := by omega
                  refine s_ek_bk 2 (P := 7) (ls' := [(0, .int c)]) (st' := [.int 99, .int c]) (M' := s_M0) rfl ?_
                  refine s_ek_if2 (T := 14) rfl rfl (fun h8 => ?_) (fun h8 => ?_)
                  · replace h8 : 99 < c.toInt := h8
                    refine s_ek_bk 1 (P := 15) (ls' := [(0, .int c)]) (st' := [.int 0]) (M' := s_M0) rfl ?_
                    refine s_ek_ret (o := some (.int 0)) (fun _ => rfl) ?_
                    show s_Ek (s_rows 3 L xs) 1299 s_e140.1 45 [(0, .ref 0), (1, .int 1), (2, .int b), (3, .int c)] [.int 0] s_M0 _
                    refine s_ek_bk 2 (P := 49) (ls' := [(0, .ref 0), (1, .int 1), (2, .int b), (3, .int c)]) (st' := [.int (-1)]) (M' := s_M0) rfl ?_
                    refine s_ek_ret (o := some (.int (-1))) (fun _ => rfl) ?_
                    refine ⟨(-1), rfl, ?_⟩
                    show s_Ek (s_rows 3 L xs) 1299 s_e214.1 0 [(0, .ref 151), (1, .int 1), (2, .int b), (3, .int c)] [] s_M0 _
                    refine s_ek_bk 3 (P := 3) (ls' := [(0, .ref 151), (1, .int 1), (2, .int b), (3, .int c)]) (st' := [.int 2, .int 0, .int 1]) (M' := s_M0) rfl ?_
                    refine s_ek_call (ν := s_e181.1) (P := 6) (as := [.int 1, .int 0, .int 2]) (r := []) (fun _ => rfl) rfl ?_
                    show s_Ek (s_rows 3 L xs) 1298 s_e181.1 0 [(0, .int 1), (1, .int 0), (2, .int 2)] [] s_M0 _
                    refine s_ek_bk 8 (P := 15) (ls' := [(0, .int 1), (1, .int 0), (2, .int 2)]) (st' := [.int 1]) (M' := s_M0) rfl ?_
                    refine s_ek_ret (o := some (.int 1)) (fun _ => rfl) ?_
                    show s_Ek (s_rows 3 L xs) 1299 s_e214.1 6 [(0, .ref 151), (1, .int 1), (2, .int b), (3, .int c)] [.int 1] s_M0 _
                    refine s_ek_bk 3 (P := 13) (ls' := [(0, .ref 151), (1, .int 1), (2, .int b), (3, .int c)]) (st' := [.int (-1), .int b]) (M' := s_M0) rfl ?_
                    refine s_ek_if2 (T := 25) rfl rfl (fun h9 => ?_) (fun h9 => ?_)
                    · replace h9 : ¬ b.toInt = (-1) := h9
                      refine s_ek_bk 3 (P := 28) (ls' := [(0, .ref 151), (1, .int 1), (2, .int b), (3, .int c)]) (st' := [.int 2, .int 0, .int b]) (M' := s_M0) rfl ?_
                      refine s_ek_call (ν := s_e181.1) (P := 31) (as := [.int b, .int 0, .int 2]) (r := []) (fun _ => rfl) rfl ?_
                      show s_Ek (s_rows 3 L xs) 1298 s_e181.1 0 [(0, .int b), (1, .int 0), (2, .int 2)] [] s_M0 _
                      refine s_ek_bk 2 (P := 2) (ls' := [(0, .int b), (1, .int 0), (2, .int 2)]) (st' := [.int 0, .int b]) (M' := s_M0) rfl ?_
                      refine s_ek_if2 (T := 14) rfl rfl (fun h10 => ?_) (fun h10 => ?_)
                      · replace h10 : b.toInt < 0 := h10
                        omega
                      · replace h10 : ¬ (b.toInt < 0) := h10
                        replace h10 : 0 ≤ b.toInt := by omega
                        refine s_ek_bk 2 (P := 7) (ls' := [(0, .int b), (1, .int 0), (2, .int 2)]) (st' := [.int 2, .int b]) (M' := s_M0) rfl ?_
                        refine s_ek_if2 (T := 14) rfl rfl (fun h11 => ?_) (fun h11 => ?_)
                        · replace h11 : 2 < b.toInt := h11
                          omega
                        · replace h11 : ¬ (2 < b.toInt) := h11
                          replace h11 : b.toInt ≤ 2 := by omega
                          refine s_ek_bk 2 (P := 15) (ls' := [(0, .int b), (1, .int 0), (2, .int 2)]) (st' := [.int 1]) (M' := s_M0) rfl ?_
                          refine s_ek_ret (o := some (.int 1)) (fun _ => rfl) ?_
                          show s_Ek (s_rows 3 L xs) 1299 s_e214.1 31 [(0, .ref 151), (1, .int 1), (2, .int b), (3, .int c)] [.int 1] s_M0 _
                          refine s_ek_bk 3 (P := 36) (ls' := [(0, .ref 151), (1, .int 1), (2, .int b), (3, .int c)]) (st' := [.int 1, .int b]) (M' := s_M0) rfl ?_
                          refine s_ek_if2 (T := 49) rfl rfl (fun h12 => ?_) (fun h12 => ?_)
                          · replace h12 : b.toInt = 1 := h12
                            omega
                          · replace h12 : ¬ (b.toInt = 1) := h12
                            replace h12 : ¬ b.toInt = 1 := by omega
                            refine s_ek_bk 3 (P := 43) (ls' := [(0, .ref 151), (1, .int 1), (2, .int b), (3, .int c)]) (st' := [.int 99, .int 0, .int c]) (M' := s_M0) rfl ?_
                            refine s_ek_call (ν := s_e181.1) (P := 46) (as := [.int c, .int 0, .int 99]) (r := []) (fun _ => rfl) rfl ?_
                            show s_Ek (s_rows 3 L xs) 1298 s_e181.1 0 [(0, .int c), (1, .int 0), (2, .int 99)] [] s_M0 _
                            refine s_ek_bk 2 (P := 2) (ls' := [(0, .int c), (1, .int 0), (2, .int 99)]) (st' := [.int 0, .int c]) (M' := s_M0) rfl ?_
                            refine s_ek_if2 (T := 14) rfl rfl (fun h13 => ?_) (fun h13 => ?_)
                            · replace h13 : c.toInt < 0 := h13
                              omega
                            · replace h13 : ¬ (c.toInt < 0) := h13
                              replace h13 : 0 ≤ c.toInt := by omega
                              refine s_ek_bk 2 (P := 7) (ls' := [(0, .int c), (1, .int 0), (2, .int 99)]) (st' := [.int 99, .int c]) (M' := s_M0) rfl ?_
                              refine s_ek_if2 (T := 14) rfl rfl (fun h14 => ?_) (fun h14 => ?_)
                              · replace h14 : 99 < c.toInt := h14
                                refine s_ek_bk 1 (P := 15) (ls' := [(0, .int c), (1, .int 0), (2, .int 99)]) (st' := [.int 0]) (M' := s_M0) rfl ?_
                                refine s_ek_ret (o := some (.int 0)) (fun _ => rfl) ?_
                                show s_Ek (s_rows 3 L xs) 1299 s_e214.1 46 [(0, .ref 151), (1, .int 1), (2, .int b), (3, .int c)] [.int 0] s_M0 _
                                refine s_ek_bk 2 (P := 50) (ls' := [(0, .ref 151), (1, .int 1), (2, .int b), (3, .int c)]) (st' := [.int (-1)]) (M' := s_M0) rfl ?_
                                refine s_ek_ret (o := some (.int (-1))) (fun _ => rfl) ?_
                                exact rfl
                              · replace h14 : ¬ (99 < c.toInt) := h14
                                replace h14 : c.toInt ≤ 99 := by omega
                                omega
                    · replace h9 : ¬ (¬ b.toInt = (-1)) := h9
                      replace h9 : b.toInt = (-1) := by omega
                      omega
                  · replace h8 : ¬ (99 < c.toInt) := h8
                    replace h8 : c.toInt ≤ 99 := by omega
                    refine s_ek_bk 2 (P := 15) (ls' := [(0, .int c)]) (st' := [.int 1]) (M' := s_M0) rfl ?_
                    refine s_ek_ret (o := some (.int 1)) (fun _ => rfl) ?_
                    show s_Ek (s_rows 3 L xs) 1299 s_e140.1 45 [(0, .ref 0), (1, .int 1), (2, .int b), (3, .int c)] [.int 1] s_M0 _
                    refine s_ek_bk 7 (P := 60) (ls' := [(0, .ref 0), (1, .int 1), (2, .int b), (3, .int c)]) (st' := [.int c, .int b, .int 1, .ref 9]) (M' := s_M0) rfl ?_
                    refine s_ek_call (ν := s_e127.1) (P := 63) (as := [.ref 9, .int 1, .int b, .int c]) (r := []) (fun _ => rfl) rfl ?_
                    show s_Ek (s_rows 3 L xs) 1298 s_e127.1 0 [(0, .ref 9), (1, .int 1), (2, .int b), (3, .int c)] [] s_M0 _
                    refine s_ek_bk 10 (P := 16) (ls' := [(0, .ref 9), (1, .int 1), (2, .int b), (3, .int c)]) (st' := []) (M' := (s_M0.set 10 (13, ([Value.int (-1), Value.int (-1), Value.int (-1)].set 1 (Value.int b))))) rfl ?_
                    refine s_ek_bk 5 (P := 23) (ls' := [(0, .ref 9), (1, .int 1), (2, .int b), (3, .int c)]) (st' := []) (M' := ((s_M0.set 10 (13, ([Value.int (-1), Value.int (-1), Value.int (-1)].set 1 (Value.int b)))).set 11 (13, ([Value.int 0, Value.int 0, Value.int 0].set 1 (Value.int c))))) rfl ?_
                    refine s_ek_ret (o := none) (fun _ => rfl) ?_
                    show s_Ek (s_rows 3 L xs) 1299 s_e140.1 63 [(0, .ref 0), (1, .int 1), (2, .int b), (3, .int c)] [] ((s_M0.set 10 (13, ([Value.int (-1), Value.int (-1), Value.int (-1)].set 1 (Value.int b)))).set 11 (13, ([Value.int 0, Value.int 0, Value.int 0].set 1 (Value.int c)))) _
                    refine s_ek_bk 1 (P := 64) (ls' := [(0, .ref 0), (1, .int 1), (2, .int b), (3, .int c)]) (st' := [.int 1]) (M' := ((s_M0.set 10 (13, ([Value.int (-1), Value.int (-1), Value.int (-1)].set 1 (Value.int b)))).set 11 (13, ([Value.int 0, Value.int 0, Value.int 0].set 1 (Value.int c))))) rfl ?_
                    refine s_ek_ret (o := some (.int 1)) (fun _ => rfl) ?_
                    refine ⟨1, rfl, ?_⟩
                    show s_Ek (s_rows 3 L xs) 1299 s_e214.1 0 [(0, .ref 151), (1, .int 1), (2, .int b), (3, .int c)] [] ((s_M0.set 10 (13, ([Value.int (-1), Value.int (-1), Value.int (-1)].set 1 (Value.int b)))).set 11 (13, ([Value.int 0, Value.int 0, Value.int 0].set 1 (Value.int c)))) _
                    refine s_ek_bk 3 (P := 3) (ls' := [(0, .ref 151), (1, .int 1), (2, .int b), (3, .int c)]) (st' := [.int 2, .int 0, .int 1]) (M' := ((s_M0.set 10 (13, ([Value.int (-1), Value.int (-1), Value.int (-1)].set 1 (Value.int b)))).set 11 (13, ([Value.int 0, Value.int 0, Value.int 0].set 1 (Value.int c))))) rfl ?_
                    refine s_ek_call (ν := s_e181.1) (P := 6) (as := [.int 1, .int 0, .int 2]) (r := []) (fun _ => rfl) rfl ?_
                    show s_Ek (s_rows 3 L xs) 1298 s_e181.1 0 [(0, .int 1), (1, .int 0), (2, .int 2)] [] ((s_M0.set 10 (13, ([Value.int (-1), Value.int (-1), Value.int (-1)].set 1 (Value.int b)))).set 11 (13, ([Value.int 0, Value.int 0, Value.int 0].set 1 (Value.int c)))) _
                    refine s_ek_bk 8 (P := 15) (ls' := [(0, .int 1), (1, .int 0), (2, .int 2)]) (st' := [.int 1]) (M' := ((s_M0.set 10 (13, ([Value.int (-1), Value.int (-1), Value.int (-1)].set 1 (Value.int b)))).set 11 (13, ([Value.int 0, Value.int 0, Value.int 0].set 1 (Value.int c))))) rfl ?_
                    refine s_ek_ret (o := some (.int 1)) (fun _ => rfl) ?_
                    show s_Ek (s_rows 3 L xs) 1299 s_e214.1 6 [(0, .ref 151), (1, .int 1), (2, .int b), (3, .int c)] [.int 1] ((s_M0.set 10 (13, ([Value.int (-1), Value.int (-1), Value.int (-1)].set 1 (Value.int b)))).set 11 (13, ([Value.int 0, Value.int 0, Value.int 0].set 1 (Value.int c)))) _
                    refine s_ek_bk 3 (P := 13) (ls' := [(0, .ref 151), (1, .int 1), (2, .int b), (3, .int c)]) (st' := [.int (-1), .int b]) (M' := ((s_M0.set 10 (13, ([Value.int (-1), Value.int (-1), Value.int (-1)].set 1 (Value.int b)))).set 11 (13, ([Value.int 0, Value.int 0, Value.int 0].set 1 (Value.int c))))) rfl ?_
                    refine s_ek_if2 (T := 25) rfl rfl (fun h9 => ?_) (fun h9 => ?_)
                    · replace h9 : ¬ b.toInt = (-1) := h9
                      refine s_ek_bk 3 (P := 28) (ls' := [(0, .ref 151), (1, .int 1), (2, .int b), (3, .int c)]) (st' := [.int 2, .int 0, .int b]) (M' := ((s_M0.set 10 (13, ([Value.int (-1), Value.int (-1), Value.int (-1)].set 1 (Value.int b)))).set 11 (13, ([Value.int 0, Value.int 0, Value.int 0].set 1 (Value.int c))))) rfl ?_
                      refine s_ek_call (ν := s_e181.1) (P := 31) (as := [.int b, .int 0, .int 2]) (r := []) (fun _ => rfl) rfl ?_
                      show s_Ek (s_rows 3 L xs) 1298 s_e181.1 0 [(0, .int b), (1, .int 0), (2, .int 2)] [] ((s_M0.set 10 (13, ([Value.int (-1), Value.int (-1), Value.int (-1)].set 1 (Value.int b)))).set 11 (13, ([Value.int 0, Value.int 0, Value.int 0].set 1 (Value.int c)))) _
                      refine s_ek_bk 2 (P := 2) (ls' := [(0, .int b), (1, .int 0), (2, .int 2)]) (st' := [.int 0, .int b]) (M' := ((s_M0.set 10 (13, ([Value.int (-1), Value.int (-1), Value.int (-1)].set 1 (Value.int b)))).set 11 (13, ([Value.int 0, Value.int 0, Value.int 0].set 1 (Value.int c))))) rfl ?_
                      refine s_ek_if2 (T := 14) rfl rfl (fun h10 => ?_) (fun h10 => ?_)
                      · replace h10 : b.toInt < 0 := h10
                        omega
                      · replace h10 : ¬ (b.toInt < 0) := h10
                        replace h10 : 0 ≤ b.toInt := by omega
                        refine s_ek_bk 2 (P := 7) (ls' := [(0, .int b), (1, .int 0), (2, .int 2)]) (st' := [.int 2, .int b]) (M' := ((s_M0.set 10 (13, ([Value.int (-1), Value.int (-1), Value.int (-1)].set 1 (Value.int b)))).set 11 (13, ([Value.int 0, Value.int 0, Value.int 0].set 1 (Value.int c))))) rfl ?_
                        refine s_ek_if2 (T := 14) rfl rfl (fun h11 => ?_) (fun h11 => ?_)
                        · replace h11 : 2 < b.toInt := h11
                          omega
                        · replace h11 : ¬ (2 < b.toInt) := h11
                          replace h11 : b.toInt ≤ 2 := by omega
                          refine s_ek_bk 2 (P := 15) (ls' := [(0, .int b), (1, .int 0), (2, .int 2)]) (st' := [.int 1]) (M' := ((s_M0.set 10 (13, ([Value.int (-1), Value.int (-1), Value.int (-1)].set 1 (Value.int b)))).set 11 (13, ([Value.int 0, Value.int 0, Value.int 0].set 1 (Value.int c))))) rfl ?_
                          refine s_ek_ret (o := some (.int 1)) (fun _ => rfl) ?_
                          show s_Ek (s_rows 3 L xs) 1299 s_e214.1 31 [(0, .ref 151), (1, .int 1), (2, .int b), (3, .int c)] [.int 1] ((s_M0.set 10 (13, ([Value.int (-1), Value.int (-1), Value.int (-1)].set 1 (Value.int b)))).set 11 (13, ([Value.int 0, Value.int 0, Value.int 0].set 1 (Value.int c)))) _
                          refine s_ek_bk 3 (P := 36) (ls' := [(0, .ref 151), (1, .int 1), (2, .int b), (3, .int c)]) (st' := [.int 1, .int b]) (M' := ((s_M0.set 10 (13, ([Value.int (-1), Value.int (-1), Value.int (-1)].set 1 (Value.int b)))).set 11 (13, ([Value.int 0, Value.int 0, Value.int 0].set 1 (Value.int c))))) rfl ?_
                          refine s_ek_if2 (T := 49) rfl rfl (fun h12 => ?_) (fun h12 => ?_)
                          · replace h12 : b.toInt = 1 := h12
                            omega
                          · replace h12 : ¬ (b.toInt = 1) := h12
                            replace h12 : ¬ b.toInt = 1 := by omega
                            refine s_ek_bk 3 (P := 43) (ls' := [(0, .ref 151), (1, .int 1), (2, .int b), (3, .int c)]) (st' := [.int 99, .int 0, .int c]) (M' := ((s_M0.set 10 (13, ([Value.int (-1), Value.int (-1), Value.int (-1)].set 1 (Value.int b)))).set 11 (13, ([Value.int 0, Value.int 0, Value.int 0].set 1 (Value.int c))))) rfl ?_
                            refine s_ek_call (ν := s_e181.1) (P := 46) (as := [.int c, .int 0, .int 99]) (r := []) (fun _ => rfl) rfl ?_
                            show s_Ek (s_rows 3 L xs) 1298 s_e181.1 0 [(0, .int c), (1, .int 0), (2, .int 99)] [] ((s_M0.set 10 (13, ([Value.int (-1), Value.int (-1), Value.int (-1)].set 1 (Value.int b)))).set 11 (13, ([Value.int 0, Value.int 0, Value.int 0].set 1 (Value.int c)))) _
                            refine s_ek_bk 2 (P := 2) (ls' := [(0, .int c), (1, .int 0), (2, .int 99)]) (st' := [.int 0, .int c]) (M' := ((s_M0.set 10 (13, ([Value.int (-1), Value.int (-1), Value.int (-1)].set 1 (Value.int b)))).set 11 (13, ([Value.int 0, Value.int 0, Value.int 0].set 1 (Value.int c))))) rfl ?_
                            refine s_ek_if2 (T := 14) rfl rfl (fun h13 => ?_) (fun h13 => ?_)
                            · replace h13 : c.toInt < 0 := h13
                              omega
                            · replace h13 : ¬ (c.toInt < 0) := h13
                              replace h13 : 0 ≤ c.toInt := by omega
                              refine s_ek_bk 2 (P := 7) (ls' := [(0, .int c), (1, .int 0), (2, .int 99)]) (st' := [.int 99, .int c]) (M' := ((s_M0.set 10 (13, ([Value.int (-1), Value.int (-1), Value.int (-1)].set 1 (Value.int b)))).set 11 (13, ([Value.int 0, Value.int 0, Value.int 0].set 1 (Value.int c))))) rfl ?_
                              refine s_ek_if2 (T := 14) rfl rfl (fun h14 => ?_) (fun h14 => ?_)
                              · replace h14 : 99 < c.toInt := h14
                                omega
                              · replace h14 : ¬ (99 < c.toInt) := h14
                                replace h14 : c.toInt ≤ 99 := by omega
                                refine s_ek_bk 2 (P := 15) (ls' := [(0, .int c), (1, .int 0), (2, .int 99)]) (st' := [.int 1]) (M' := ((s_M0.set 10 (13, ([Value.int (-1), Value.int (-1), Value.int (-1)].set 1 (Value.int b)))).set 11 (13, ([Value.int 0, Value.int 0, Value.int 0].set 1 (Value.int c))))) rfl ?_
                                refine s_ek_ret (o := some (.int 1)) (fun _ => rfl) ?_
                                show s_Ek (s_rows 3 L xs) 1299 s_e214.1 46 [(0, .ref 151), (1, .int 1), (2, .int b), (3, .int c)] [.int 1] ((s_M0.set 10 (13, ([Value.int (-1), Value.int (-1), Value.int (-1)].set 1 (Value.int b)))).set 11 (13, ([Value.int 0, Value.int 0, Value.int 0].set 1 (Value.int c)))) _
                                refine s_ek_bk 6 (P := 58) (ls' := [(0, .ref 151), (1, .int 1), (2, .int b), (3, .int c)]) (st' := []) (M' := (((s_M0.set 10 (13, ([Value.int (-1), Value.int (-1), Value.int (-1)].set 1 (Value.int b)))).set 11 (13, ([Value.int 0, Value.int 0, Value.int 0].set 1 (Value.int c)))).set 163 (13, ([Value.int (-1), Value.int (-1), Value.int (-1)].set 1 (Value.int b))))) rfl ?_
                                refine s_ek_bk 5 (P := 65) (ls' := [(0, .ref 151), (1, .int 1), (2, .int b), (3, .int c)]) (st' := []) (M' := ((((s_M0.set 10 (13, ([Value.int (-1), Value.int (-1), Value.int (-1)].set 1 (Value.int b)))).set 11 (13, ([Value.int 0, Value.int 0, Value.int 0].set 1 (Value.int c)))).set 163 (13, ([Value.int (-1), Value.int (-1), Value.int (-1)].set 1 (Value.int b)))).set 164 (13, ([Value.int 0, Value.int 0, Value.int 0].set 1 (Value.int c))))) rfl ?_
                                refine s_ek_bk 1 (P := 66) (ls' := [(0, .ref 151), (1, .int 1), (2, .int b), (3, .int c)]) (st' := [.int 1]) (M' := ((((s_M0.set 10 (13, ([Value.int (-1), Value.int (-1), Value.int (-1)].set 1 (Value.int b)))).set 11 (13, ([Value.int 0, Value.int 0, Value.int 0].set 1 (Value.int c)))).set 163 (13, ([Value.int (-1), Value.int (-1), Value.int (-1)].set 1 (Value.int b)))).set 164 (13, ([Value.int 0, Value.int 0, Value.int 0].set 1 (Value.int c))))) rfl ?_
                                refine s_ek_ret (o := some (.int 1)) (fun _ => rfl) ?_
                                exact rfl
                    · replace h9 : ¬ (¬ b.toInt = (-1)) := h9
                      replace h9 : b.toInt = (-1) := by omega
                      omega
            · refine s_ek_if2 (T := 48) rfl rfl (fun h6 => ?_) (fun h6 => ?_)
              · replace h6 : b.toInt = 2 := h6
                refine s_ek_bk 1 (P := 49) (ls' := [(0, .ref 0), (1, .int 2), (2, .int b), (3, .int c)]) (st' := [.int (-1)]) (M' := s_M0) rfl ?_
                refine s_ek_ret (o := some (.int (-1))) (fun _ => rfl) ?_
                refine ⟨(-1), rfl, ?_⟩
                show s_Ek (s_rows 3 L xs) 1299 s_e214.1 0 [(0, .ref 151), (1, .int 2), (2, .int b), (3, .int c)] [] s_M0 _
                refine s_ek_bk 3 (P := 3) (ls' := [(0, .ref 151), (1, .int 2), (2, .int b), (3, .int c)]) (st' := [.int 2, .int 0, .int 2]) (M' := s_M0) rfl ?_
                refine s_ek_call (ν := s_e181.1) (P := 6) (as := [.int 2, .int 0, .int 2]) (r := []) (fun _ => rfl) rfl ?_
                show s_Ek (s_rows 3 L xs) 1298 s_e181.1 0 [(0, .int 2), (1, .int 0), (2, .int 2)] [] s_M0 _
                refine s_ek_bk 8 (P := 15) (ls' := [(0, .int 2), (1, .int 0), (2, .int 2)]) (st' := [.int 1]) (M' := s_M0) rfl ?_
                refine s_ek_ret (o := some (.int 1)) (fun _ => rfl) ?_
                show s_Ek (s_rows 3 L xs) 1299 s_e214.1 6 [(0, .ref 151), (1, .int 2), (2, .int b), (3, .int c)] [.int 1] s_M0 _
                refine s_ek_bk 3 (P := 13) (ls' := [(0, .ref 151), (1, .int 2), (2, .int b), (3, .int c)]) (st' := [.int (-1), .int b]) (M' := s_M0) rfl ?_
                refine s_ek_if2 (T := 25) rfl rfl (fun h7 => ?_) (fun h7 => ?_)
                · replace h7 : ¬ b.toInt = (-1) := h7
                  refine s_ek_bk 3 (P := 28) (ls' := [(0, .ref 151), (1, .int 2), (2, .int b), (3, .int c)]) (st' := [.int 2, .int 0, .int b]) (M' := s_M0) rfl ?_
                  refine s_ek_call (ν := s_e181.1) (P := 31) (as := [.int b, .int 0, .int 2]) (r := []) (fun _ => rfl) rfl ?_
                  show s_Ek (s_rows 3 L xs) 1298 s_e181.1 0 [(0, .int b), (1, .int 0), (2, .int 2)] [] s_M0 _
                  refine s_ek_bk 2 (P := 2) (ls' := [(0, .int b), (1, .int 0), (2, .int 2)]) (st' := [.int 0, .int b]) (M' := s_M0) rfl ?_
                  refine s_ek_if2 (T := 14) rfl rfl (fun h8 => ?_) (fun h8 => ?_)
                  · replace h8 : b.toInt < 0 := h8
                    omega
                  · replace h8 : ¬ (b.toInt < 0) := h8
                    replace h8 : 0 ≤ b.toInt := by omega
                    refine s_ek_bk 2 (P := 7) (ls' := [(0, .int b), (1, .int 0), (2, .int 2)]) (st' := [.int 2, .int b]) (M' := s_M0) rfl ?_
                    refine s_ek_if2 (T := 14) rfl rfl (fun h9 => ?_) (fun h9 => ?_)
                    · replace h9 : 2 < b.toInt := h9
                      omega
                    · replace h9 : ¬ (2 < b.toInt) := h9
                      replace h9 : b.toInt ≤ 2 := by omega
                      refine s_ek_bk 2 (P := 15) (ls' := [(0, .int b), (1, .int 0), (2, .int 2)]) (st' := [.int 1]) (M' := s_M0) rfl ?_
                      refine s_ek_ret (o := some (.int 1)) (fun _ => rfl) ?_
                      show s_Ek (s_rows 3 L xs) 1299 s_e214.1 31 [(0, .ref 151), (1, .int 2), (2, .int b), (3, .int c)] [.int 1] s_M0 _
                      refine s_ek_bk 3 (P := 36) (ls' := [(0, .ref 151), (1, .int 2), (2, .int b), (3, .int c)]) (st' := [.int 2, .int b]) (M' := s_M0) rfl ?_
                      refine s_ek_if2 (T := 49) rfl rfl (fun h10 => ?_) (fun h10 => ?_)
                      · replace h10 : b.toInt = 2 := h10
                        refine s_ek_bk 1 (P := 50) (ls' := [(0, .ref 151), (1, .int 2), (2, .int b), (3, .int c)]) (st' := [.int (-1)]) (M' := s_M0) rfl ?_
                        refine s_ek_ret (o := some (.int (-1))) (fun _ => rfl) ?_
                        exact rfl
                      · replace h10 : ¬ (b.toInt = 2) := h10
                        replace h10 : ¬ b.toInt = 2 := by omega
                        omega
                · replace h7 : ¬ (¬ b.toInt = (-1)) := h7
                  replace h7 : b.toInt = (-1) := by omega
                  omega
              · replace h6 : ¬ (b.toInt = 2) := h6
                replace h6 : ¬ b.toInt = 2 := by omega
                refine s_ek_bk 1 (P := 42) (ls' := [(0, .ref 0), (1, .int 2), (2, .int b), (3, .int c)]) (st' := [.int c]) (M' := s_M0) rfl ?_
                refine s_ek_call (ν := s_e169.1) (P := 45) (as := [.int c]) (r := []) (fun _ => rfl) rfl ?_
                show s_Ek (s_rows 3 L xs) 1298 s_e169.1 0 [(0, .int c)] [] s_M0 _
                refine s_ek_bk 1 (P := 1) (ls' := [(0, .int c)]) (st' := [.int c]) (M' := s_M0) rfl ?_
                refine s_ek_if1 (T := 14) rfl rfl (fun h7 => ?_) (fun h7 => ?_)
                · replace h7 : c.toInt < 0 := h7
                  refine s_ek_bk 1 (P := 15) (ls' := [(0, .int c)]) (st' := [.int 0]) (M' := s_M0) rfl ?_
                  refine s_ek_ret (o := some (.int 0)) (fun _ => rfl) ?_
                  show s_Ek (s_rows 3 L xs) 1299 s_e140.1 45 [(0, .ref 0), (1, .int 2), (2, .int b), (3, .int c)] [.int 0] s_M0 _
                  refine s_ek_bk 2 (P := 49) (ls' := [(0, .ref 0), (1, .int 2), (2, .int b), (3, .int c)]) (st' := [.int (-1)]) (M' := s_M0) rfl ?_
                  refine s_ek_ret (o := some (.int (-1))) (fun _ => rfl) ?_
                  refine ⟨(-1), rfl, ?_⟩
                  show s_Ek (s_rows 3 L xs) 1299 s_e214.1 0 [(0, .ref 151), (1, .int 2), (2, .int b), (3, .int c)] [] s_M0 _
                  refine s_ek_bk 3 (P := 3) (ls' := [(0, .ref 151), (1, .int 2), (2, .int b), (3, .int c)]) (st' := [.int 2, .int 0, .int 2]) (M' := s_M0) rfl ?_
                  refine s_ek_call (ν := s_e181.1) (P := 6) (as := [.int 2, .int 0, .int 2]) (r := []) (fun _ => rfl) rfl ?_
                  show s_Ek (s_rows 3 L xs) 1298 s_e181.1 0 [(0, .int 2), (1, .int 0), (2, .int 2)] [] s_M0 _
                  refine s_ek_bk 8 (P := 15) (ls' := [(0, .int 2), (1, .int 0), (2, .int 2)]) (st' := [.int 1]) (M' := s_M0) rfl ?_
                  refine s_ek_ret (o := some (.int 1)) (fun _ => rfl) ?_
                  show s_Ek (s_rows 3 L xs) 1299 s_e214.1 6 [(0, .ref 151), (1, .int 2), (2, .int b), (3, .int c)] [.int 1] s_M0 _
                  refine s_ek_bk 3 (P := 13) (ls' := [(0, .ref 151), (1, .int 2), (2, .int b), (3, .int c)]) (st' := [.int (-1), .int b]) (M' := s_M0) rfl ?_
                  refine s_ek_if2 (T := 25) rfl rfl (fun h8 => ?_) (fun h8 => ?_)
                  · replace h8 : ¬ b.toInt = (-1) := h8
                    refine s_ek_bk 3 (P := 28) (ls' := [(0, .ref 151), (1, .int 2), (2, .int b), (3, .int c)]) (st' := [.int 2, .int 0, .int b]) (M' := s_M0) rfl ?_
                    refine s_ek_call (ν := s_e181.1) (P := 31) (as := [.int b, .int 0, .int 2]) (r := []) (fun _ => rfl) rfl ?_
                    show s_Ek (s_rows 3 L xs) 1298 s_e181.1 0 [(0, .int b), (1, .int 0), (2, .int 2)] [] s_M0 _
                    refine s_ek_bk 2 (P := 2) (ls' := [(0, .int b), (1, .int 0), (2, .int 2)]) (st' := [.int 0, .int b]) (M' := s_M0) rfl ?_
                    refine s_ek_if2 (T := 14) rfl rfl (fun h9 => ?_) (fun h9 => ?_)
                    · replace h9 : b.toInt < 0 := h9
                      omega
                    · replace h9 : ¬ (b.toInt < 0) := h9
                      replace h9 : 0 ≤ b.toInt := by omega
                      refine s_ek_bk 2 (P := 7) (ls' := [(0, .int b), (1, .int 0), (2, .int 2)]) (st' := [.int 2, .int b]) (M' := s_M0) rfl ?_
                      refine s_ek_if2 (T := 14) rfl rfl (fun h10 => ?_) (fun h10 => ?_)
                      · replace h10 : 2 < b.toInt := h10
                        omega
                      · replace h10 : ¬ (2 < b.toInt) := h10
                        replace h10 : b.toInt ≤ 2 := by omega
                        refine s_ek_bk 2 (P := 15) (ls' := [(0, .int b), (1, .int 0), (2, .int 2)]) (st' := [.int 1]) (M' := s_M0) rfl ?_
                        refine s_ek_ret (o := some (.int 1)) (fun _ => rfl) ?_
                        show s_Ek (s_rows 3 L xs) 1299 s_e214.1 31 [(0, .ref 151), (1, .int 2), (2, .int b), (3, .int c)] [.int 1] s_M0 _
                        refine s_ek_bk 3 (P := 36) (ls' := [(0, .ref 151), (1, .int 2), (2, .int b), (3, .int c)]) (st' := [.int 2, .int b]) (M' := s_M0) rfl ?_
                        refine s_ek_if2 (T := 49) rfl rfl (fun h11 => ?_) (fun h11 => ?_)
                        · replace h11 : b.toInt = 2 := h11
                          omega
                        · replace h11 : ¬ (b.toInt = 2) := h11
                          replace h11 : ¬ b.toInt = 2 := by omega
                          refine s_ek_bk 3 (P := 43) (ls' := [(0, .ref 151), (1, .int 2), (2, .int b), (3, .int c)]) (st' := [.int 99, .int 0, .int c]) (M' := s_M0) rfl ?_
                          refine s_ek_call (ν := s_e181.1) (P := 46) (as := [.int c, .int 0, .int 99]) (r := []) (fun _ => rfl) rfl ?_
                          show s_Ek (s_rows 3 L xs) 1298 s_e181.1 0 [(0, .int c), (1, .int 0), (2, .int 99)] [] s_M0 _
                          refine s_ek_bk 2 (P := 2) (ls' := [(0, .int c), (1, .int 0), (2, .int 99)]) (st' := [.int 0, .int c]) (M' := s_M0) rfl ?_
                          refine s_ek_if2 (T := 14) rfl rfl (fun h12 => ?_) (fun h12 => ?_)
                          · replace h12 : c.toInt < 0 := h12
                            refine s_ek_bk 1 (P := 15) (ls' := [(0, .int c), (1, .int 0), (2, .int 99)]) (st' := [.int 0]) (M' := s_M0) rfl ?_
                            refine s_ek_ret (o := some (.int 0)) (fun _ => rfl) ?_
                            show s_Ek (s_rows 3 L xs) 1299 s_e214.1 46 [(0, .ref 151), (1, .int 2), (2, .int b), (3, .int c)] [.int 0] s_M0 _
                            refine s_ek_bk 2 (P := 50) (ls' := [(0, .ref 151), (1, .int 2), (2, .int b), (3, .int c)]) (st' := [.int (-1)]) (M' := s_M0) rfl ?_
                            refine s_ek_ret (o := some (.int (-1))) (fun _ => rfl) ?_
                            exact rfl
                          · replace h12 : ¬ (c.toInt < 0) := h12
                            replace h12 : 0 ≤ c.toInt := by omega
                            omega
                  · replace h8 : ¬ (¬ b.toInt = (-1)) := h8
                    replace h8 : b.toInt = (-1) := by omega
                    omega
                · replace h7 : ¬ (c.toInt < 0) := h7
                  replace h7 : 0 ≤ c.toInt := by omega
                  refine s_ek_bk 2 (P := 7) (ls' := [(0, .int c)]) (st' := [.int 99, .int c]) (M' := s_M0) rfl ?_
                  refine s_ek_if2 (T := 14) rfl rfl (fun h8 => ?_) (fun h8 => ?_)
                  · replace h8 : 99 < c.toInt := h8
                    refine s_ek_bk 1 (P := 15) (ls' := [(0, .int c)]) (st' := [.int 0]) (M' := s_M0) rfl ?_
                    refine s_ek_ret (o := some (.int 0)) (fun _ => rfl) ?_
                    show s_Ek (s_rows 3 L xs) 1299 s_e140.1 45 [(0, .ref 0), (1, .int 2), (2, .int b), (3, .int c)] [.int 0] s_M0 _
                    refine s_ek_bk 2 (P := 49) (ls' := [(0, .ref 0), (1, .int 2), (2, .int b), (3, .int c)]) (st' := [.int (-1)]) (M' := s_M0) rfl ?_
                    refine s_ek_ret (o := some (.int (-1))) (fun _ => rfl) ?_
                    refine ⟨(-1), rfl, ?_⟩
                    show s_Ek (s_rows 3 L xs) 1299 s_e214.1 0 [(0, .ref 151), (1, .int 2), (2, .int b), (3, .int c)] [] s_M0 _
                    refine s_ek_bk 3 (P := 3) (ls' := [(0, .ref 151), (1, .int 2), (2, .int b), (3, .int c)]) (st' := [.int 2, .int 0, .int 2]) (M' := s_M0) rfl ?_
                    refine s_ek_call (ν := s_e181.1) (P := 6) (as := [.int 2, .int 0, .int 2]) (r := []) (fun _ => rfl) rfl ?_
                    show s_Ek (s_rows 3 L xs) 1298 s_e181.1 0 [(0, .int 2), (1, .int 0), (2, .int 2)] [] s_M0 _
                    refine s_ek_bk 8 (P := 15) (ls' := [(0, .int 2), (1, .int 0), (2, .int 2)]) (st' := [.int 1]) (M' := s_M0) rfl ?_
                    refine s_ek_ret (o := some (.int 1)) (fun _ => rfl) ?_
                    show s_Ek (s_rows 3 L xs) 1299 s_e214.1 6 [(0, .ref 151), (1, .int 2), (2, .int b), (3, .int c)] [.int 1] s_M0 _
                    refine s_ek_bk 3 (P := 13) (ls' := [(0, .ref 151), (1, .int 2), (2, .int b), (3, .int c)]) (st' := [.int (-1), .int b]) (M' := s_M0) rfl ?_
                    refine s_ek_if2 (T := 25) rfl rfl (fun h9 => ?_) (fun h9 => ?_)
                    · replace h9 : ¬ b.toInt = (-1) := h9
                      refine s_ek_bk 3 (P := 28) (ls' := [(0, .ref 151), (1, .int 2), (2, .int b), (3, .int c)]) (st' := [.int 2, .int 0, .int b]) (M' := s_M0) rfl ?_
                      refine s_ek_call (ν := s_e181.1) (P := 31) (as := [.int b, .int 0, .int 2]) (r := []) (fun _ => rfl) rfl ?_
                      show s_Ek (s_rows 3 L xs) 1298 s_e181.1 0 [(0, .int b), (1, .int 0), (2, .int 2)] [] s_M0 _
                      refine s_ek_bk 2 (P := 2) (ls' := [(0, .int b), (1, .int 0), (2, .int 2)]) (st' := [.int 0, .int b]) (M' := s_M0) rfl ?_
                      refine s_ek_if2 (T := 14) rfl rfl (fun h10 => ?_) (fun h10 => ?_)
                      · replace h10 : b.toInt < 0 := h10
                        omega
                      · replace h10 : ¬ (b.toInt < 0) := h10
                        replace h10 : 0 ≤ b.toInt := by omega
                        refine s_ek_bk 2 (P := 7) (ls' := [(0, .int b), (1, .int 0), (2, .int 2)]) (st' := [.int 2, .int b]) (M' := s_M0) rfl ?_
                        refine s_ek_if2 (T := 14) rfl rfl (fun h11 => ?_) (fun h11 => ?_)
                        · replace h11 : 2 < b.toInt := h11
                          omega
                        · replace h11 : ¬ (2 < b.toInt) := h11
                          replace h11 : b.toInt ≤ 2 := by omega
                          refine s_ek_bk 2 (P := 15) (ls' := [(0, .int b), (1, .int 0), (2, .int 2)]) (st' := [.int 1]) (M' := s_M0) rfl ?_
                          refine s_ek_ret (o := some (.int 1)) (fun _ => rfl) ?_
                          show s_Ek (s_rows 3 L xs) 1299 s_e214.1 31 [(0, .ref 151), (1, .int 2), (2, .int b), (3, .int c)] [.int 1] s_M0 _
                          refine s_ek_bk 3 (P := 36) (ls' := [(0, .ref 151), (1, .int 2), (2, .int b), (3, .int c)]) (st' := [.int 2, .int b]) (M' := s_M0) rfl ?_
                          refine s_ek_if2 (T := 49) rfl rfl (fun h12 => ?_) (fun h12 => ?_)
                          · replace h12 : b.toInt = 2 := h12
                            omega
                          · replace h12 : ¬ (b.toInt = 2) := h12
                            replace h12 : ¬ b.toInt = 2 := by omega
                            refine s_ek_bk 3 (P := 43) (ls' := [(0, .ref 151), (1, .int 2), (2, .int b), (3, .int c)]) (st' := [.int 99, .int 0, .int c]) (M' := s_M0) rfl ?_
                            refine s_ek_call (ν := s_e181.1) (P := 46) (as := [.int c, .int 0, .int 99]) (r := []) (fun _ => rfl) rfl ?_
                            show s_Ek (s_rows 3 L xs) 1298 s_e181.1 0 [(0, .int c), (1, .int 0), (2, .int 99)] [] s_M0 _
                            refine s_ek_bk 2 (P := 2) (ls' := [(0, .int c), (1, .int 0), (2, .int 99)]) (st' := [.int 0, .int c]) (M' := s_M0) rfl ?_
                            refine s_ek_if2 (T := 14) rfl rfl (fun h13 => ?_) (fun h13 => ?_)
                            · replace h13 : c.toInt < 0 := h13
                              omega
                            · replace h13 : ¬ (c.toInt < 0) := h13
                              replace h13 : 0 ≤ c.toInt := by omega
                              refine s_ek_bk 2 (P := 7) (ls' := [(0, .int c), (1, .int 0), (2, .int 99)]) (st' := [.int 99, .int c]) (M' := s_M0) rfl ?_
                              refine s_ek_if2 (T := 14) rfl rfl (fun h14 => ?_) (fun h14 => ?_)
                              · replace h14 : 99 < c.toInt := h14
                                refine s_ek_bk 1 (P := 15) (ls' := [(0, .int c), (1, .int 0), (2, .int 99)]) (st' := [.int 0]) (M' := s_M0) rfl ?_
                                refine s_ek_ret (o := some (.int 0)) (fun _ => rfl) ?_
                                show s_Ek (s_rows 3 L xs) 1299 s_e214.1 46 [(0, .ref 151), (1, .int 2), (2, .int b), (3, .int c)] [.int 0] s_M0 _
                                refine s_ek_bk 2 (P := 50) (ls' := [(0, .ref 151), (1, .int 2), (2, .int b), (3, .int c)]) (st' := [.int (-1)]) (M' := s_M0) rfl ?_
                                refine s_ek_ret (o := some (.int (-1))) (fun _ => rfl) ?_
                                exact rfl
                              · replace h14 : ¬ (99 < c.toInt) := h14
                                replace h14 : c.toInt ≤ 99 := by omega
                                omega
                    · replace h9 : ¬ (¬ b.toInt = (-1)) := h9
                      replace h9 : b.toInt = (-1) := by omega
                      omega
                  · replace h8 : ¬ (99 < c.toInt) := h8
                    replace h8 : c.toInt ≤ 99 := by omega
                    refine s_ek_bk 2 (P := 15) (ls' := [(0, .int c)]) (st' := [.int 1]) (M' := s_M0) rfl ?_
                    refine s_ek_ret (o := some (.int 1)) (fun _ => rfl) ?_
                    show s_Ek (s_rows 3 L xs) 1299 s_e140.1 45 [(0, .ref 0), (1, .int 2), (2, .int b), (3, .int c)] [.int 1] s_M0 _
                    refine s_ek_bk 7 (P := 60) (ls' := [(0, .ref 0), (1, .int 2), (2, .int b), (3, .int c)]) (st' := [.int c, .int b, .int 2, .ref 9]) (M' := s_M0) rfl ?_
                    refine s_ek_call (ν := s_e127.1) (P := 63) (as := [.ref 9, .int 2, .int b, .int c]) (r := []) (fun _ => rfl) rfl ?_
                    show s_Ek (s_rows 3 L xs) 1298 s_e127.1 0 [(0, .ref 9), (1, .int 2), (2, .int b), (3, .int c)] [] s_M0 _
                    refine s_ek_bk 10 (P := 16) (ls' := [(0, .ref 9), (1, .int 2), (2, .int b), (3, .int c)]) (st' := []) (M' := (s_M0.set 10 (13, ([Value.int (-1), Value.int (-1), Value.int (-1)].set 2 (Value.int b))))) rfl ?_
                    refine s_ek_bk 5 (P := 23) (ls' := [(0, .ref 9), (1, .int 2), (2, .int b), (3, .int c)]) (st' := []) (M' := ((s_M0.set 10 (13, ([Value.int (-1), Value.int (-1), Value.int (-1)].set 2 (Value.int b)))).set 11 (13, ([Value.int 0, Value.int 0, Value.int 0].set 2 (Value.int c))))) rfl ?_
                    refine s_ek_ret (o := none) (fun _ => rfl) ?_
                    show s_Ek (s_rows 3 L xs) 1299 s_e140.1 63 [(0, .ref 0), (1, .int 2), (2, .int b), (3, .int c)] [] ((s_M0.set 10 (13, ([Value.int (-1), Value.int (-1), Value.int (-1)].set 2 (Value.int b)))).set 11 (13, ([Value.int 0, Value.int 0, Value.int 0].set 2 (Value.int c)))) _
                    refine s_ek_bk 1 (P := 64) (ls' := [(0, .ref 0), (1, .int 2), (2, .int b), (3, .int c)]) (st' := [.int 1]) (M' := ((s_M0.set 10 (13, ([Value.int (-1), Value.int (-1), Value.int (-1)].set 2 (Value.int b)))).set 11 (13, ([Value.int 0, Value.int 0, Value.int 0].set 2 (Value.int c))))) rfl ?_
                    refine s_ek_ret (o := some (.int 1)) (fun _ => rfl) ?_
                    refine ⟨1, rfl, ?_⟩
                    show s_Ek (s_rows 3 L xs) 1299 s_e214.1 0 [(0, .ref 151), (1, .int 2), (2, .int b), (3, .int c)] [] ((s_M0.set 10 (13, ([Value.int (-1), Value.int (-1), Value.int (-1)].set 2 (Value.int b)))).set 11 (13, ([Value.int 0, Value.int 0, Value.int 0].set 2 (Value.int c)))) _
                    refine s_ek_bk 3 (P := 3) (ls' := [(0, .ref 151), (1, .int 2), (2, .int b), (3, .int c)]) (st' := [.int 2, .int 0, .int 2]) (M' := ((s_M0.set 10 (13, ([Value.int (-1), Value.int (-1), Value.int (-1)].set 2 (Value.int b)))).set 11 (13, ([Value.int 0, Value.int 0, Value.int 0].set 2 (Value.int c))))) rfl ?_
                    refine s_ek_call (ν := s_e181.1) (P := 6) (as := [.int 2, .int 0, .int 2]) (r := []) (fun _ => rfl) rfl ?_
                    show s_Ek (s_rows 3 L xs) 1298 s_e181.1 0 [(0, .int 2), (1, .int 0), (2, .int 2)] [] ((s_M0.set 10 (13, ([Value.int (-1), Value.int (-1), Value.int (-1)].set 2 (Value.int b)))).set 11 (13, ([Value.int 0, Value.int 0, Value.int 0].set 2 (Value.int c)))) _
                    refine s_ek_bk 8 (P := 15) (ls' := [(0, .int 2), (1, .int 0), (2, .int 2)]) (st' := [.int 1]) (M' := ((s_M0.set 10 (13, ([Value.int (-1), Value.int (-1), Value.int (-1)].set 2 (Value.int b)))).set 11 (13, ([Value.int 0, Value.int 0, Value.int 0].set 2 (Value.int c))))) rfl ?_
                    refine s_ek_ret (o := some (.int 1)) (fun _ => rfl) ?_
                    show s_Ek (s_rows 3 L xs) 1299 s_e214.1 6 [(0, .ref 151), (1, .int 2), (2, .int b), (3, .int c)] [.int 1] ((s_M0.set 10 (13, ([Value.int (-1), Value.int (-1), Value.int (-1)].set 2 (Value.int b)))).set 11 (13, ([Value.int 0, Value.int 0, Value.int 0].set 2 (Value.int c)))) _
                    refine s_ek_bk 3 (P := 13) (ls' := [(0, .ref 151), (1, .int 2), (2, .int b), (3, .int c)]) (st' := [.int (-1), .int b]) (M' := ((s_M0.set 10 (13, ([Value.int (-1), Value.int (-1), Value.int (-1)].set 2 (Value.int b)))).set 11 (13, ([Value.int 0, Value.int 0, Value.int 0].set 2 (Value.int c))))) rfl ?_
                    refine s_ek_if2 (T := 25) rfl rfl (fun h9 => ?_) (fun h9 => ?_)
                    · replace h9 : ¬ b.toInt = (-1) := h9
                      refine s_ek_bk 3 (P := 28) (ls' := [(0, .ref 151), (1, .int 2), (2, .int b), (3, .int c)]) (st' := [.int 2, .int 0, .int b]) (M' := ((s_M0.set 10 (13, ([Value.int (-1), Value.int (-1), Value.int (-1)].set 2 (Value.int b)))).set 11 (13, ([Value.int 0, Value.int 0, Value.int 0].set 2 (Value.int c))))) rfl ?_
                      refine s_ek_call (ν := s_e181.1) (P := 31) (as := [.int b, .int 0, .int 2]) (r := []) (fun _ => rfl) rfl ?_
                      show s_Ek (s_rows 3 L xs) 1298 s_e181.1 0 [(0, .int b), (1, .int 0), (2, .int 2)] [] ((s_M0.set 10 (13, ([Value.int (-1), Value.int (-1), Value.int (-1)].set 2 (Value.int b)))).set 11 (13, ([Value.int 0, Value.int 0, Value.int 0].set 2 (Value.int c)))) _
                      refine s_ek_bk 2 (P := 2) (ls' := [(0, .int b), (1, .int 0), (2, .int 2)]) (st' := [.int 0, .int b]) (M' := ((s_M0.set 10 (13, ([Value.int (-1), Value.int (-1), Value.int (-1)].set 2 (Value.int b)))).set 11 (13, ([Value.int 0, Value.int 0, Value.int 0].set 2 (Value.int c))))) rfl ?_
                      refine s_ek_if2 (T := 14) rfl rfl (fun h10 => ?_) (fun h10 => ?_)
                      · replace h10 : b.toInt < 0 := h10
                        omega
                      · replace h10 : ¬ (b.toInt < 0) := h10
                        replace h10 : 0 ≤ b.toInt := by omega
                        refine s_ek_bk 2 (P := 7) (ls' := [(0, .int b), (1, .int 0), (2, .int 2)]) (st' := [.int 2, .int b]) (M' := ((s_M0.set 10 (13, ([Value.int (-1), Value.int (-1), Value.int (-1)].set 2 (Value.int b)))).set 11 (13, ([Value.int 0, Value.int 0, Value.int 0].set 2 (Value.int c))))) rfl ?_
                        refine s_ek_if2 (T := 14) rfl rfl (fun h11 => ?_) (fun h11 => ?_)
                        · replace h11 : 2 < b.toInt := h11
                          omega
                        · replace h11 : ¬ (2 < b.toInt) := h11
                          replace h11 : b.toInt ≤ 2 := by omega
                          refine s_ek_bk 2 (P := 15) (ls' := [(0, .int b), (1, .int 0), (2, .int 2)]) (st' := [.int 1]) (M' := ((s_M0.set 10 (13, ([Value.int (-1), Value.int (-1), Value.int (-1)].set 2 (Value.int b)))).set 11 (13, ([Value.int 0, Value.int 0, Value.int 0].set 2 (Value.int c))))) rfl ?_
                          refine s_ek_ret (o := some (.int 1)) (fun _ => rfl) ?_
                          show s_Ek (s_rows 3 L xs) 1299 s_e214.1 31 [(0, .ref 151), (1, .int 2), (2, .int b), (3, .int c)] [.int 1] ((s_M0.set 10 (13, ([Value.int (-1), Value.int (-1), Value.int (-1)].set 2 (Value.int b)))).set 11 (13, ([Value.int 0, Value.int 0, Value.int 0].set 2 (Value.int c)))) _
                          refine s_ek_bk 3 (P := 36) (ls' := [(0, .ref 151), (1, .int 2), (2, .int b), (3, .int c)]) (st' := [.int 2, .int b]) (M' := ((s_M0.set 10 (13, ([Value.int (-1), Value.int (-1), Value.int (-1)].set 2 (Value.int b)))).set 11 (13, ([Value.int 0, Value.int 0, Value.int 0].set 2 (Value.int c))))) rfl ?_
                          refine s_ek_if2 (T := 49) rfl rfl (fun h12 => ?_) (fun h12 => ?_)
                          · replace h12 : b.toInt = 2 := h12
                            omega
                          · replace h12 : ¬ (b.toInt = 2) := h12
                            replace h12 : ¬ b.toInt = 2 := by omega
                            refine s_ek_bk 3 (P := 43) (ls' := [(0, .ref 151), (1, .int 2), (2, .int b), (3, .int c)]) (st' := [.int 99, .int 0, .int c]) (M' := ((s_M0.set 10 (13, ([Value.int (-1), Value.int (-1), Value.int (-1)].set 2 (Value.int b)))).set 11 (13, ([Value.int 0, Value.int 0, Value.int 0].set 2 (Value.int c))))) rfl ?_
                            refine s_ek_call (ν := s_e181.1) (P := 46) (as := [.int c, .int 0, .int 99]) (r := []) (fun _ => rfl) rfl ?_
                            show s_Ek (s_rows 3 L xs) 1298 s_e181.1 0 [(0, .int c), (1, .int 0), (2, .int 99)] [] ((s_M0.set 10 (13, ([Value.int (-1), Value.int (-1), Value.int (-1)].set 2 (Value.int b)))).set 11 (13, ([Value.int 0, Value.int 0, Value.int 0].set 2 (Value.int c)))) _
                            refine s_ek_bk 2 (P := 2) (ls' := [(0, .int c), (1, .int 0), (2, .int 99)]) (st' := [.int 0, .int c]) (M' := ((s_M0.set 10 (13, ([Value.int (-1), Value.int (-1), Value.int (-1)].set 2 (Value.int b)))).set 11 (13, ([Value.int 0, Value.int 0, Value.int 0].set 2 (Value.int c))))) rfl ?_
                            refine s_ek_if2 (T := 14) rfl rfl (fun h13 => ?_) (fun h13 => ?_)
                            · replace h13 : c.toInt < 0 := h13
                              omega
                            · replace h13 : ¬ (c.toInt < 0) := h13
                              replace h13 : 0 ≤ c.toInt := by omega
                              refine s_ek_bk 2 (P := 7) (ls' := [(0, .int c), (1, .int 0), (2, .int 99)]) (st' := [.int 99, .int c]) (M' := ((s_M0.set 10 (13, ([Value.int (-1), Value.int (-1), Value.int (-1)].set 2 (Value.int b)))).set 11 (13, ([Value.int 0, Value.int 0, Value.int 0].set 2 (Value.int c))))) rfl ?_
                              refine s_ek_if2 (T := 14) rfl rfl (fun h14 => ?_) (fun h14 => ?_)
                              · replace h14 : 99 < c.toInt := h14
                                omega
                              · replace h14 : ¬ (99 < c.toInt) := h14
                                replace h14 : c.toInt ≤ 99 := by omega
                                refine s_ek_bk 2 (P := 15) (ls' := [(0, .int c), (1, .int 0), (2, .int 99)]) (st' := [.int 1]) (M' := ((s_M0.set 10 (13, ([Value.int (-1), Value.int (-1), Value.int (-1)].set 2 (Value.int b)))).set 11 (13, ([Value.int 0, Value.int 0, Value.int 0].set 2 (Value.int c))))) rfl ?_
                                refine s_ek_ret (o := some (.int 1)) (fun _ => rfl) ?_
                                show s_Ek (s_rows 3 L xs) 1299 s_e214.1 46 [(0, .ref 151), (1, .int 2), (2, .int b), (3, .int c)] [.int 1] ((s_M0.set 10 (13, ([Value.int (-1), Value.int (-1), Value.int (-1)].set 2 (Value.int b)))).set 11 (13, ([Value.int 0, Value.int 0, Value.int 0].set 2 (Value.int c)))) _
                                refine s_ek_bk 6 (P := 58) (ls' := [(0, .ref 151), (1, .int 2), (2, .int b), (3, .int c)]) (st' := []) (M' := (((s_M0.set 10 (13, ([Value.int (-1), Value.int (-1), Value.int (-1)].set 2 (Value.int b)))).set 11 (13, ([Value.int 0, Value.int 0, Value.int 0].set 2 (Value.int c)))).set 163 (13, ([Value.int (-1), Value.int (-1), Value.int (-1)].set 2 (Value.int b))))) rfl ?_
                                refine s_ek_bk 5 (P := 65) (ls' := [(0, .ref 151), (1, .int 2), (2, .int b), (3, .int c)]) (st' := []) (M' := ((((s_M0.set 10 (13, ([Value.int (-1), Value.int (-1), Value.int (-1)].set 2 (Value.int b)))).set 11 (13, ([Value.int 0, Value.int 0, Value.int 0].set 2 (Value.int c)))).set 163 (13, ([Value.int (-1), Value.int (-1), Value.int (-1)].set 2 (Value.int b)))).set 164 (13, ([Value.int 0, Value.int 0, Value.int 0].set 2 (Value.int c))))) rfl ?_
                                refine s_ek_bk 1 (P := 66) (ls' := [(0, .ref 151), (1, .int 2), (2, .int b), (3, .int c)]) (st' := [.int 1]) (M' := ((((s_M0.set 10 (13, ([Value.int (-1), Value.int (-1), Value.int (-1)].set 2 (Value.int b)))).set 11 (13, ([Value.int 0, Value.int 0, Value.int 0].set 2 (Value.int c)))).set 163 (13, ([Value.int (-1), Value.int (-1), Value.int (-1)].set 2 (Value.int b)))).set 164 (13, ([Value.int 0, Value.int 0, Value.int 0].set 2 (Value.int c))))) rfl ?_
                                refine s_ek_ret (o := some (.int 1)) (fun _ => rfl) ?_
                                exact rfl
                    · replace h9 : ¬ (¬ b.toInt = (-1)) := h9
                      replace h9 : b.toInt = (-1) := by omega
                      omega
      · replace h3 : ¬ (¬ b.toInt = (-1)) := h3
        replace h3 : b.toInt = (-1) := by omega
        refine s_ek_bk 6 (P := 24) (ls' := [(0, .ref 0), (1, .int a), (2, .int b), (3, .int c)]) (st' := [.int 0, .int (-1), .int a, .ref 9]) (M' := s_M0) rfl ?_
        refine s_ek_call (ν := s_e127.1) (P := 27) (as := [.ref 9, .int a, .int (-1), .int 0]) (r := []) (fun _ => rfl) rfl ?_
        show s_Ek (s_rows 3 L xs) 1298 s_e127.1 0 [(0, .ref 9), (1, .int a), (2, .int (-1)), (3, .int 0)] [] s_M0 _
        refine s_ek_bk 1 (P := 1) (ls' := [(0, .ref 9), (1, .int a), (2, .int (-1)), (3, .int 0)]) (st' := [.int a]) (M' := s_M0) rfl ?_
        refine s_ek_if1 (T := 23) rfl rfl (fun h4 => ?_) (fun h4 => ?_)
        · replace h4 : a.toInt < 0 := h4
          omega
        · replace h4 : ¬ (a.toInt < 0) := h4
          replace h4 : 0 ≤ a.toInt := by omega
          refine s_ek_bk 2 (P := 6) (ls' := [(0, .ref 9), (1, .int a), (2, .int (-1)), (3, .int 0)]) (st' := [.int 3, .int a]) (M' := s_M0) rfl ?_
          refine s_ek_if2 (T := 23) rfl rfl (fun h5 => ?_) (fun h5 => ?_)
          · replace h5 : 3 ≤ a.toInt := h5
            omega
          · replace h5 : ¬ (3 ≤ a.toInt) := h5
            replace h5 : a.toInt < 3 := by omega
            refine s_ek_bk 4 (P := 15) (ls' := [(0, .ref 9), (1, .int a), (2, .int (-1)), (3, .int 0)]) (st' := [.int (-1), .int a, .ref 10]) (M' := s_M0) rfl ?_
            rcases s_rg_0_2 (a := a) (by omega) (by omega) with rfl | rfl | rfl
            · refine s_ek_bk 1 (P := 16) (ls' := [(0, .ref 9), (1, .int 0), (2, .int (-1)), (3, .int 0)]) (st' := []) (M' := s_M0) rfl ?_
              refine s_ek_bk 5 (P := 23) (ls' := [(0, .ref 9), (1, .int 0), (2, .int (-1)), (3, .int 0)]) (st' := []) (M' := s_M0) rfl ?_
              refine s_ek_ret (o := none) (fun _ => rfl) ?_
              show s_Ek (s_rows 3 L xs) 1299 s_e140.1 27 [(0, .ref 0), (1, .int 0), (2, .int b), (3, .int c)] [] s_M0 _
              refine s_ek_bk 1 (P := 28) (ls' := [(0, .ref 0), (1, .int 0), (2, .int b), (3, .int c)]) (st' := [.int 1]) (M' := s_M0) rfl ?_
              refine s_ek_ret (o := some (.int 1)) (fun _ => rfl) ?_
              refine ⟨1, rfl, ?_⟩
              show s_Ek (s_rows 3 L xs) 1299 s_e214.1 0 [(0, .ref 151), (1, .int 0), (2, .int b), (3, .int c)] [] s_M0 _
              refine s_ek_bk 3 (P := 3) (ls' := [(0, .ref 151), (1, .int 0), (2, .int b), (3, .int c)]) (st' := [.int 2, .int 0, .int 0]) (M' := s_M0) rfl ?_
              refine s_ek_call (ν := s_e181.1) (P := 6) (as := [.int 0, .int 0, .int 2]) (r := []) (fun _ => rfl) rfl ?_
              show s_Ek (s_rows 3 L xs) 1298 s_e181.1 0 [(0, .int 0), (1, .int 0), (2, .int 2)] [] s_M0 _
              refine s_ek_bk 8 (P := 15) (ls' := [(0, .int 0), (1, .int 0), (2, .int 2)]) (st' := [.int 1]) (M' := s_M0) rfl ?_
              refine s_ek_ret (o := some (.int 1)) (fun _ => rfl) ?_
              show s_Ek (s_rows 3 L xs) 1299 s_e214.1 6 [(0, .ref 151), (1, .int 0), (2, .int b), (3, .int c)] [.int 1] s_M0 _
              refine s_ek_bk 3 (P := 13) (ls' := [(0, .ref 151), (1, .int 0), (2, .int b), (3, .int c)]) (st' := [.int (-1), .int b]) (M' := s_M0) rfl ?_
              refine s_ek_if2 (T := 25) rfl rfl (fun h6 => ?_) (fun h6 => ?_)
              · replace h6 : ¬ b.toInt = (-1) := h6
                omega
              · replace h6 : ¬ (¬ b.toInt = (-1)) := h6
                replace h6 : b.toInt = (-1) := by omega
                refine s_ek_bk 5 (P := 23) (ls' := [(0, .ref 151), (1, .int 0), (2, .int b), (3, .int c)]) (st' := []) (M' := s_M0) rfl ?_
                refine s_ek_bk 1 (P := 24) (ls' := [(0, .ref 151), (1, .int 0), (2, .int b), (3, .int c)]) (st' := [.int 1]) (M' := s_M0) rfl ?_
                refine s_ek_ret (o := some (.int 1)) (fun _ => rfl) ?_
                exact rfl
            · refine s_ek_bk 1 (P := 16) (ls' := [(0, .ref 9), (1, .int 1), (2, .int (-1)), (3, .int 0)]) (st' := []) (M' := s_M0) rfl ?_
              refine s_ek_bk 5 (P := 23) (ls' := [(0, .ref 9), (1, .int 1), (2, .int (-1)), (3, .int 0)]) (st' := []) (M' := s_M0) rfl ?_
              refine s_ek_ret (o := none) (fun _ => rfl) ?_
              show s_Ek (s_rows 3 L xs) 1299 s_e140.1 27 [(0, .ref 0), (1, .int 1), (2, .int b), (3, .int c)] [] s_M0 _
              refine s_ek_bk 1 (P := 28) (ls' := [(0, .ref 0), (1, .int 1), (2, .int b), (3, .int c)]) (st' := [.int 1]) (M' := s_M0) rfl ?_
              refine s_ek_ret (o := some (.int 1)) (fun _ => rfl) ?_
              refine ⟨1, rfl, ?_⟩
              show s_Ek (s_rows 3 L xs) 1299 s_e214.1 0 [(0, .ref 151), (1, .int 1), (2, .int b), (3, .int c)] [] s_M0 _
              refine s_ek_bk 3 (P := 3) (ls' := [(0, .ref 151), (1, .int 1), (2, .int b), (3, .int c)]) (st' := [.int 2, .int 0, .int 1]) (M' := s_M0) rfl ?_
              refine s_ek_call (ν := s_e181.1) (P := 6) (as := [.int 1, .int 0, .int 2]) (r := []) (fun _ => rfl) rfl ?_
              show s_Ek (s_rows 3 L xs) 1298 s_e181.1 0 [(0, .int 1), (1, .int 0), (2, .int 2)] [] s_M0 _
              refine s_ek_bk 8 (P := 15) (ls' := [(0, .int 1), (1, .int 0), (2, .int 2)]) (st' := [.int 1]) (M' := s_M0) rfl ?_
              refine s_ek_ret (o := some (.int 1)) (fun _ => rfl) ?_
              show s_Ek (s_rows 3 L xs) 1299 s_e214.1 6 [(0, .ref 151), (1, .int 1), (2, .int b), (3, .int c)] [.int 1] s_M0 _
              refine s_ek_bk 3 (P := 13) (ls' := [(0, .ref 151), (1, .int 1), (2, .int b), (3, .int c)]) (st' := [.int (-1), .int b]) (M' := s_M0) rfl ?_
              refine s_ek_if2 (T := 25) rfl rfl (fun h6 => ?_) (fun h6 => ?_)
              · replace h6 : ¬ b.toInt = (-1) := h6
                omega
              · replace h6 : ¬ (¬ b.toInt = (-1)) := h6
                replace h6 : b.toInt = (-1) := by omega
                refine s_ek_bk 5 (P := 23) (ls' := [(0, .ref 151), (1, .int 1), (2, .int b), (3, .int c)]) (st' := []) (M' := s_M0) rfl ?_
                refine s_ek_bk 1 (P := 24) (ls' := [(0, .ref 151), (1, .int 1), (2, .int b), (3, .int c)]) (st' := [.int 1]) (M' := s_M0) rfl ?_
                refine s_ek_ret (o := some (.int 1)) (fun _ => rfl) ?_
                exact rfl
            · refine s_ek_bk 1 (P := 16) (ls' := [(0, .ref 9), (1, .int 2), (2, .int (-1)), (3, .int 0)]) (st' := []) (M' := s_M0) rfl ?_
              refine s_ek_bk 5 (P := 23) (ls' := [(0, .ref 9), (1, .int 2), (2, .int (-1)), (3, .int 0)]) (st' := []) (M' := s_M0) rfl ?_
              refine s_ek_ret (o := none) (fun _ => rfl) ?_
              show s_Ek (s_rows 3 L xs) 1299 s_e140.1 27 [(0, .ref 0), (1, .int 2), (2, .int b), (3, .int c)] [] s_M0 _
              refine s_ek_bk 1 (P := 28) (ls' := [(0, .ref 0), (1, .int 2), (2, .int b), (3, .int c)]) (st' := [.int 1]) (M' := s_M0) rfl ?_
              refine s_ek_ret (o := some (.int 1)) (fun _ => rfl) ?_
              refine ⟨1, rfl, ?_⟩
              show s_Ek (s_rows 3 L xs) 1299 s_e214.1 0 [(0, .ref 151), (1, .int 2), (2, .int b), (3, .int c)] [] s_M0 _
              refine s_ek_bk 3 (P := 3) (ls' := [(0, .ref 151), (1, .int 2), (2, .int b), (3, .int c)]) (st' := [.int 2, .int 0, .int 2]) (M' := s_M0) rfl ?_
              refine s_ek_call (ν := s_e181.1) (P := 6) (as := [.int 2, .int 0, .int 2]) (r := []) (fun _ => rfl) rfl ?_
              show s_Ek (s_rows 3 L xs) 1298 s_e181.1 0 [(0, .int 2), (1, .int 0), (2, .int 2)] [] s_M0 _
              refine s_ek_bk 8 (P := 15) (ls' := [(0, .int 2), (1, .int 0), (2, .int 2)]) (st' := [.int 1]) (M' := s_M0) rfl ?_
              refine s_ek_ret (o := some (.int 1)) (fun _ => rfl) ?_
              show s_Ek (s_rows 3 L xs) 1299 s_e214.1 6 [(0, .ref 151), (1, .int 2), (2, .int b), (3, .int c)] [.int 1] s_M0 _
              refine s_ek_bk 3 (P := 13) (ls' := [(0, .ref 151), (1, .int 2), (2, .int b), (3, .int c)]) (st' := [.int (-1), .int b]) (M' := s_M0) rfl ?_
              refine s_ek_if2 (T := 25) rfl rfl (fun h6 => ?_) (fun h6 => ?_)
              · replace h6 : ¬ b.toInt = (-1) := h6
                omega
              · replace h6 : ¬ (¬ b.toInt = (-1)) := h6
                replace h6 : b.toInt = (-1) := by omega
                refine s_ek_bk 5 (P := 23) (ls' := [(0, .ref 151), (1, .int 2), (2, .int b), (3, .int c)]) (st' := []) (M' := s_M0) rfl ?_
                refine s_ek_bk 1 (P := 24) (ls' := [(0, .ref 151), (1, .int 2), (2, .int b), (3, .int c)]) (st' := [.int 1]) (M' := s_M0) rfl ?_
                refine s_ek_ret (o := some (.int 1)) (fun _ => rfl) ?_
                exact rfl
set_option maxHeartbeats 20000000 in
set_option maxRecDepth 100000 in
theorem s_op_of (L : Nat) (xs : Nat → Int32) (a : Int32) (b : Int32) : s_Ek (s_rows 3 L xs) 1299 s_e141.1 0 (lv_args 0 [.ref 0, .int a, .int b]) [] s_M0 (fun v M1 => ∃ r : Int32, v = some (.int r) ∧ s_Ek (s_rows 3 L xs) 1299 s_e229.1 0 (lv_args 0 [.ref 151, .int a, .int b]) [] M1 (fun w _ => w = some (.int r))) := by
  show s_Ek (s_rows 3 L xs) 1299 s_e141.1 0 [(0, .ref 0), (1, .int a), (2, .int b)] [] s_M0 _
  refine s_ek_bk 1 (P := 1) (ls' := [(0, .ref 0), (1, .int a), (2, .int b)]) (st' := [.int b]) (M' := s_M0) rfl ?_
  refine s_ek_if1 (T := 32) rfl rfl (fun h1 => ?_) (fun h1 => ?_)
  · replace h1 : b.toInt < 0 := h1
    refine s_ek_bk 2 (P := 35) (ls' := [(0, .ref 0), (1, .int a), (2, .int b)]) (st' := [.int 10, .int b]) (M' := s_M0) rfl ?_
    refine s_ek_if2 (T := 64) rfl rfl (fun h2 => ?_) (fun h2 => ?_)
    · replace h2 : ¬ b.toInt = 10 := h2
      refine s_ek_bk 2 (P := 67) (ls' := [(0, .ref 0), (1, .int a), (2, .int b)]) (st' := [.int 20, .int b]) (M' := s_M0) rfl ?_
      refine s_ek_if2 (T := 82) rfl rfl (fun h3 => ?_) (fun h3 => ?_)
      · replace h3 : ¬ b.toInt = 20 := h3
        refine s_ek_bk 2 (P := 85) (ls' := [(0, .ref 0), (1, .int a), (2, .int b)]) (st' := [.int 21, .int b]) (M' := s_M0) rfl ?_
        refine s_ek_if2 (T := 102) rfl rfl (fun h4 => ?_) (fun h4 => ?_)
        · replace h4 : ¬ b.toInt = 21 := h4
          refine s_ek_bk 1 (P := 104) (ls' := [(0, .ref 0), (1, .int a), (2, .int b)]) (st' := [.int (-2000000000)]) (M' := s_M0) rfl ?_
          refine s_ek_ret (o := some (.int (-2000000000))) (fun _ => rfl) ?_
          refine ⟨(-2000000000), rfl, ?_⟩
          show s_Ek (s_rows 3 L xs) 1299 s_e229.1 0 [(0, .ref 151), (1, .int a), (2, .int b)] [] s_M0 _
          refine s_ek_bk 2 (P := 3) (ls' := [(0, .ref 151), (1, .int a), (2, .int b)]) (st' := [.int 10, .int b]) (M' := s_M0) rfl ?_
          refine s_ek_if2 (T := 26) rfl rfl (fun h5 => ?_) (fun h5 => ?_)
          · replace h5 : ¬ b.toInt = 10 := h5
            refine s_ek_bk 3 (P := 31) (ls' := [(0, .ref 151), (1, .int a), (2, .int b)]) (st' := [.int 21, .int 20, .int b]) (M' := s_M0) rfl ?_
            refine s_ek_call (ν := s_e181.1) (P := 34) (as := [.int b, .int 20, .int 21]) (r := []) (fun _ => rfl) rfl ?_
            show s_Ek (s_rows 3 L xs) 1298 s_e181.1 0 [(0, .int b), (1, .int 20), (2, .int 21)] [] s_M0 _
            refine s_ek_bk 2 (P := 2) (ls' := [(0, .int b), (1, .int 20), (2, .int 21)]) (st' := [.int 20, .int b]) (M' := s_M0) rfl ?_
            refine s_ek_if2 (T := 14) rfl rfl (fun h6 => ?_) (fun h6 => ?_)
            · replace h6 : b.toInt < 20 := h6
              refine s_ek_bk 1 (P := 15) (ls' := [(0, .int b), (1, .int 20), (2, .int 21)]) (st' := [.int 0]) (M' := s_M0) rfl ?_
              refine s_ek_ret (o := some (.int 0)) (fun _ => rfl) ?_
              show s_Ek (s_rows 3 L xs) 1299 s_e229.1 34 [(0, .ref 151), (1, .int a), (2, .int b)] [.int 0] s_M0 _
              refine s_ek_bk 4 (P := 67) (ls' := [(0, .ref 151), (1, .int a), (2, .int b)]) (st' := [.int 5, .int 0, .int b]) (M' := s_M0) rfl ?_
              refine s_ek_call (ν := s_e181.1) (P := 70) (as := [.int b, .int 0, .int 5]) (r := []) (fun _ => rfl) rfl ?_
              show s_Ek (s_rows 3 L xs) 1298 s_e181.1 0 [(0, .int b), (1, .int 0), (2, .int 5)] [] s_M0 _
              refine s_ek_bk 2 (P := 2) (ls' := [(0, .int b), (1, .int 0), (2, .int 5)]) (st' := [.int 0, .int b]) (M' := s_M0) rfl ?_
              refine s_ek_if2 (T := 14) rfl rfl (fun h7 => ?_) (fun h7 => ?_)
              · replace h7 : b.toInt < 0 := h7
                refine s_ek_bk 1 (P := 15) (ls' := [(0, .int b), (1, .int 0), (2, .int 5)]) (st' := [.int 0]) (M' := s_M0) rfl ?_
                refine s_ek_ret (o := some (.int 0)) (fun _ => rfl) ?_
                show s_Ek (s_rows 3 L xs) 1299 s_e229.1 70 [(0, .ref 151), (1, .int a), (2, .int b)] [.int 0] s_M0 _
                refine s_ek_bk 2 (P := 83) (ls' := [(0, .ref 151), (1, .int a), (2, .int b)]) (st' := [.int (-2000000000)]) (M' := s_M0) rfl ?_
                refine s_ek_ret (o := some (.int (-2000000000))) (fun _ => rfl) ?_
                exact rfl
              · replace h7 : ¬ (b.toInt < 0) := h7
                replace h7 : 0 ≤ b.toInt := by omega
                omega
            · replace h6 : ¬ (b.toInt < 20) := h6
              replace h6 : 20 ≤ b.toInt := by omega
              omega
          · replace h5 : ¬ (¬ b.toInt = 10) := h5
            replace h5 : b.toInt = 10 := by omega
            omega
        · replace h4 : ¬ (¬ b.toInt = 21) := h4
          replace h4 : b.toInt = 21 := by omega
          omega
      · replace h3 : ¬ (¬ b.toInt = 20) := h3
        replace h3 : b.toInt = 20 := by omega
        omega
    · replace h2 : ¬ (¬ b.toInt = 10) := h2
      replace h2 : b.toInt = 10 := by omega
      omega
  · replace h1 : ¬ (b.toInt < 0) := h1
    replace h1 : 0 ≤ b.toInt := by omega
    refine s_ek_bk 2 (P := 6) (ls' := [(0, .ref 0), (1, .int a), (2, .int b)]) (st' := [.int 5, .int b]) (M' := s_M0) rfl ?_
    refine s_ek_if2 (T := 32) rfl rfl (fun h2 => ?_) (fun h2 => ?_)
    · replace h2 : 5 < b.toInt := h2
      refine s_ek_bk 2 (P := 35) (ls' := [(0, .ref 0), (1, .int a), (2, .int b)]) (st' := [.int 10, .int b]) (M' := s_M0) rfl ?_
      refine s_ek_if2 (T := 64) rfl rfl (fun h3 => ?_) (fun h3 => ?_)
      · replace h3 : ¬ b.toInt = 10 := h3
        refine s_ek_bk 2 (P := 67) (ls' := [(0, .ref 0), (1, .int a), (2, .int b)]) (st' := [.int 20, .int b]) (M' := s_M0) rfl ?_
        refine s_ek_if2 (T := 82) rfl rfl (fun h4 => ?_) (fun h4 => ?_)
        · replace h4 : ¬ b.toInt = 20 := h4
          refine s_ek_bk 2 (P := 85) (ls' := [(0, .ref 0), (1, .int a), (2, .int b)]) (st' := [.int 21, .int b]) (M' := s_M0) rfl ?_
          refine s_ek_if2 (T := 102) rfl rfl (fun h5 => ?_) (fun h5 => ?_)
          · replace h5 : ¬ b.toInt = 21 := h5
            refine s_ek_bk 1 (P := 104) (ls' := [(0, .ref 0), (1, .int a), (2, .int b)]) (st' := [.int (-2000000000)]) (M' := s_M0) rfl ?_
            refine s_ek_ret (o := some (.int (-2000000000))) (fun _ => rfl) ?_
            refine ⟨(-2000000000), rfl, ?_⟩
            show s_Ek (s_rows 3 L xs) 1299 s_e229.1 0 [(0, .ref 151), (1, .int a), (2, .int b)] [] s_M0 _
            refine s_ek_bk 2 (P := 3) (ls' := [(0, .ref 151), (1, .int a), (2, .int b)]) (st' := [.int 10, .int b]) (M' := s_M0) rfl ?_
            refine s_ek_if2 (T := 26) rfl rfl (fun h6 => ?_) (fun h6 => ?_)
            · replace h6 : ¬ b.toInt = 10 := h6
              refine s_ek_bk 3 (P := 31) (ls' := [(0, .ref 151), (1, .int a), (2, .int b)]) (st' := [.int 21, .int 20, .int b]) (M' := s_M0) rfl ?_
              refine s_ek_call (ν := s_e181.1) (P := 34) (as := [.int b, .int 20, .int 21]) (r := []) (fun _ => rfl) rfl ?_
              show s_Ek (s_rows 3 L xs) 1298 s_e181.1 0 [(0, .int b), (1, .int 20), (2, .int 21)] [] s_M0 _
              refine s_ek_bk 2 (P := 2) (ls' := [(0, .int b), (1, .int 20), (2, .int 21)]) (st' := [.int 20, .int b]) (M' := s_M0) rfl ?_
              refine s_ek_if2 (T := 14) rfl rfl (fun h7 => ?_) (fun h7 => ?_)
              · replace h7 : b.toInt < 20 := h7
                refine s_ek_bk 1 (P := 15) (ls' := [(0, .int b), (1, .int 20), (2, .int 21)]) (st' := [.int 0]) (M' := s_M0) rfl ?_
                refine s_ek_ret (o := some (.int 0)) (fun _ => rfl) ?_
                show s_Ek (s_rows 3 L xs) 1299 s_e229.1 34 [(0, .ref 151), (1, .int a), (2, .int b)] [.int 0] s_M0 _
                refine s_ek_bk 4 (P := 67) (ls' := [(0, .ref 151), (1, .int a), (2, .int b)]) (st' := [.int 5, .int 0, .int b]) (M' := s_M0) rfl ?_
                refine s_ek_call (ν := s_e181.1) (P := 70) (as := [.int b, .int 0, .int 5]) (r := []) (fun _ => rfl) rfl ?_
                show s_Ek (s_rows 3 L xs) 1298 s_e181.1 0 [(0, .int b), (1, .int 0), (2, .int 5)] [] s_M0 _
                refine s_ek_bk 2 (P := 2) (ls' := [(0, .int b), (1, .int 0), (2, .int 5)]) (st' := [.int 0, .int b]) (M' := s_M0) rfl ?_
                refine s_ek_if2 (T := 14) rfl rfl (fun h8 => ?_) (fun h8 => ?_)
                · replace h8 : b.toInt < 0 := h8
                  omega
                · replace h8 : ¬ (b.toInt < 0) := h8
                  replace h8 : 0 ≤ b.toInt := by omega
                  refine s_ek_bk 2 (P := 7) (ls' := [(0, .int b), (1, .int 0), (2, .int 5)]) (st' := [.int 5, .int b]) (M' := s_M0) rfl ?_
                  refine s_ek_if2 (T := 14) rfl rfl (fun h9 => ?_) (fun h9 => ?_)
                  · replace h9 : 5 < b.toInt := h9
                    refine s_ek_bk 1 (P := 15) (ls' := [(0, .int b), (1, .int 0), (2, .int 5)]) (st' := [.int 0]) (M' := s_M0) rfl ?_
                    refine s_ek_ret (o := some (.int 0)) (fun _ => rfl) ?_
                    show s_Ek (s_rows 3 L xs) 1299 s_e229.1 70 [(0, .ref 151), (1, .int a), (2, .int b)] [.int 0] s_M0 _
                    refine s_ek_bk 2 (P := 83) (ls' := [(0, .ref 151), (1, .int a), (2, .int b)]) (st' := [.int (-2000000000)]) (M' := s_M0) rfl ?_
                    refine s_ek_ret (o := some (.int (-2000000000))) (fun _ => rfl) ?_
                    exact rfl
                  · replace h9 : ¬ (5 < b.toInt) := h9
                    replace h9 : b.toInt ≤ 5 := by omega
                    omega
              · replace h7 : ¬ (b.toInt < 20) := h7
                replace h7 : 20 ≤ b.toInt := by omega
                refine s_ek_bk 2 (P := 7) (ls' := [(0, .int b), (1, .int 20), (2, .int 21)]) (st' := [.int 21, .int b]) (M' := s_M0) rfl ?_
                refine s_ek_if2 (T := 14) rfl rfl (fun h8 => ?_) (fun h8 => ?_)
                · replace h8 : 21 < b.toInt := h8
                  refine s_ek_bk 1 (P := 15) (ls' := [(0, .int b), (1, .int 20), (2, .int 21)]) (st' := [.int 0]) (M' := s_M0) rfl ?_
                  refine s_ek_ret (o := some (.int 0)) (fun _ => rfl) ?_
                  show s_Ek (s_rows 3 L xs) 1299 s_e229.1 34 [(0, .ref 151), (1, .int a), (2, .int b)] [.int 0] s_M0 _
                  refine s_ek_bk 4 (P := 67) (ls' := [(0, .ref 151), (1, .int a), (2, .int b)]) (st' := [.int 5, .int 0, .int b]) (M' := s_M0) rfl ?_
                  refine s_ek_call (ν := s_e181.1) (P := 70) (as := [.int b, .int 0, .int 5]) (r := []) (fun _ => rfl) rfl ?_
                  show s_Ek (s_rows 3 L xs) 1298 s_e181.1 0 [(0, .int b), (1, .int 0), (2, .int 5)] [] s_M0 _
                  refine s_ek_bk 2 (P := 2) (ls' := [(0, .int b), (1, .int 0), (2, .int 5)]) (st' := [.int 0, .int b]) (M' := s_M0) rfl ?_
                  refine s_ek_if2 (T := 14) rfl rfl (fun h9 => ?_) (fun h9 => ?_)
                  · replace h9 : b.toInt < 0 := h9
                    omega
                  · replace h9 : ¬ (b.toInt < 0) := h9
                    replace h9 : 0 ≤ b.toInt := by omega
                    refine s_ek_bk 2 (P := 7) (ls' := [(0, .int b), (1, .int 0), (2, .int 5)]) (st' := [.int 5, .int b]) (M' := s_M0) rfl ?_
                    refine s_ek_if2 (T := 14) rfl rfl (fun h10 => ?_) (fun h10 => ?_)
                    · replace h10 : 5 < b.toInt := h10
                      refine s_ek_bk 1 (P := 15) (ls' := [(0, .int b), (1, .int 0), (2, .int 5)]) (st' := [.int 0]) (M' := s_M0) rfl ?_
                      refine s_ek_ret (o := some (.int 0)) (fun _ => rfl) ?_
                      show s_Ek (s_rows 3 L xs) 1299 s_e229.1 70 [(0, .ref 151), (1, .int a), (2, .int b)] [.int 0] s_M0 _
                      refine s_ek_bk 2 (P := 83) (ls' := [(0, .ref 151), (1, .int a), (2, .int b)]) (st' := [.int (-2000000000)]) (M' := s_M0) rfl ?_
                      refine s_ek_ret (o := some (.int (-2000000000))) (fun _ => rfl) ?_
                      exact rfl
                    · replace h10 : ¬ (5 < b.toInt) := h10
                      replace h10 : b.toInt ≤ 5 := by omega
                      omega
                · replace h8 : ¬ (21 < b.toInt) := h8
                  replace h8 : b.toInt ≤ 21 := by omega
                  omega
            · replace h6 : ¬ (¬ b.toInt = 10) := h6
              replace h6 : b.toInt = 10 := by omega
              omega
          · replace h5 : ¬ (¬ b.toInt = 21) := h5
            replace h5 : b.toInt = 21 := by omega
            refine s_ek_bk 1 (P := 89) (ls' := [(0, .ref 0), (1, .int a), (2, .int b)]) (st' := [.int a]) (M' := s_M0) rfl ?_
            refine s_ek_if1 (T := 102) rfl rfl (fun h6 => ?_) (fun h6 => ?_)
            · replace h6 : ¬ a.toInt = 0 := h6
              refine s_ek_bk 1 (P := 104) (ls' := [(0, .ref 0), (1, .int a), (2, .int b)]) (st' := [.int (-2000000000)]) (M' := s_M0) rfl ?_
              refine s_ek_ret (o := some (.int (-2000000000))) (fun _ => rfl) ?_
              refine ⟨(-2000000000), rfl, ?_⟩
              show s_Ek (s_rows 3 L xs) 1299 s_e229.1 0 [(0, .ref 151), (1, .int a), (2, .int b)] [] s_M0 _
              refine s_ek_bk 2 (P := 3) (ls' := [(0, .ref 151), (1, .int a), (2, .int b)]) (st' := [.int 10, .int b]) (M' := s_M0) rfl ?_
              refine s_ek_if2 (T := 26) rfl rfl (fun h7 => ?_) (fun h7 => ?_)
              · replace h7 : ¬ b.toInt = 10 := h7
                refine s_ek_bk 3 (P := 31) (ls' := [(0, .ref 151), (1, .int a), (2, .int b)]) (st' := [.int 21, .int 20, .int b]) (M' := s_M0) rfl ?_
                refine s_ek_call (ν := s_e181.1) (P := 34) (as := [.int b, .int 20, .int 21]) (r := []) (fun _ => rfl) rfl ?_
                show s_Ek (s_rows 3 L xs) 1298 s_e181.1 0 [(0, .int b), (1, .int 20), (2, .int 21)] [] s_M0 _
                refine s_ek_bk 2 (P := 2) (ls' := [(0, .int b), (1, .int 20), (2, .int 21)]) (st' := [.int 20, .int b]) (M' := s_M0) rfl ?_
                refine s_ek_if2 (T := 14) rfl rfl (fun h8 => ?_) (fun h8 => ?_)
                · replace h8 : b.toInt < 20 := h8
                  omega
                · replace h8 : ¬ (b.toInt < 20) := h8
                  replace h8 : 20 ≤ b.toInt := by omega
                  refine s_ek_bk 2 (P := 7) (ls' := [(0, .int b), (1, .int 20), (2, .int 21)]) (st' := [.int 21, .int b]) (M' := s_M0) rfl ?_
                  refine s_ek_if2 (T := 14) rfl rfl (fun h9 => ?_) (fun h9 => ?_)
                  · replace h9 : 21 < b.toInt := h9
                    omega
                  · replace h9 : ¬ (21 < b.toInt) := h9
                    replace h9 : b.toInt ≤ 21 := by omega
                    refine s_ek_bk 2 (P := 15) (ls' := [(0, .int b), (1, .int 20), (2, .int 21)]) (st' := [.int 1]) (M' := s_M0) rfl ?_
                    refine s_ek_ret (o := some (.int 1)) (fun _ => rfl) ?_
                    show s_Ek (s_rows 3 L xs) 1299 s_e229.1 34 [(0, .ref 151), (1, .int a), (2, .int b)] [.int 1] s_M0 _
                    refine s_ek_bk 2 (P := 38) (ls' := [(0, .ref 151), (1, .int a), (2, .int b)]) (st' := [.int a]) (M' := s_M0) rfl ?_
                    refine s_ek_if1 (T := 46) rfl rfl (fun h10 => ?_) (fun h10 => ?_)
                    · replace h10 : a.toInt = 0 := h10
                      omega
                    · replace h10 : ¬ (a.toInt = 0) := h10
                      replace h10 : ¬ a.toInt = 0 := by omega
                      refine s_ek_bk 2 (P := 63) (ls' := [(0, .ref 151), (1, .int a), (2, .int b)]) (st' := [.int (-2000000000)]) (M' := s_M0) rfl ?_
                      refine s_ek_ret (o := some (.int (-2000000000))) (fun _ => rfl) ?_
                      exact rfl
              · replace h7 : ¬ (¬ b.toInt = 10) := h7
                replace h7 : b.toInt = 10 := by omega
                omega
            · replace h6 : ¬ (¬ a.toInt = 0) := h6
              replace h6 : a.toInt = 0 := by omega
              refine s_ek_bk 4 (P := 104) (ls' := [(0, .ref 0), (1, .int a), (2, .int b)]) (st' := [.int 99]) (M' := s_M0) rfl ?_
              refine s_ek_ret (o := some (.int 99)) (fun _ => rfl) ?_
              refine ⟨99, rfl, ?_⟩
              show s_Ek (s_rows 3 L xs) 1299 s_e229.1 0 [(0, .ref 151), (1, .int a), (2, .int b)] [] s_M0 _
              refine s_ek_bk 2 (P := 3) (ls' := [(0, .ref 151), (1, .int a), (2, .int b)]) (st' := [.int 10, .int b]) (M' := s_M0) rfl ?_
              refine s_ek_if2 (T := 26) rfl rfl (fun h7 => ?_) (fun h7 => ?_)
              · replace h7 : ¬ b.toInt = 10 := h7
                refine s_ek_bk 3 (P := 31) (ls' := [(0, .ref 151), (1, .int a), (2, .int b)]) (st' := [.int 21, .int 20, .int b]) (M' := s_M0) rfl ?_
                refine s_ek_call (ν := s_e181.1) (P := 34) (as := [.int b, .int 20, .int 21]) (r := []) (fun _ => rfl) rfl ?_
                show s_Ek (s_rows 3 L xs) 1298 s_e181.1 0 [(0, .int b), (1, .int 20), (2, .int 21)] [] s_M0 _
                refine s_ek_bk 2 (P := 2) (ls' := [(0, .int b), (1, .int 20), (2, .int 21)]) (st' := [.int 20, .int b]) (M' := s_M0) rfl ?_
                refine s_ek_if2 (T := 14) rfl rfl (fun h8 => ?_) (fun h8 => ?_)
                · replace h8 : b.toInt < 20 := h8
                  omega
                · replace h8 : ¬ (b.toInt < 20) := h8
                  replace h8 : 20 ≤ b.toInt := by omega
                  refine s_ek_bk 2 (P := 7) (ls' := [(0, .int b), (1, .int 20), (2, .int 21)]) (st' := [.int 21, .int b]) (M' := s_M0) rfl ?_
                  refine s_ek_if2 (T := 14) rfl rfl (fun h9 => ?_) (fun h9 => ?_)
                  · replace h9 : 21 < b.toInt := h9
                    omega
                  · replace h9 : ¬ (21 < b.toInt) := h9
                    replace h9 : b.toInt ≤ 21 := by omega
                    refine s_ek_bk 2 (P := 15) (ls' := [(0, .int b), (1, .int 20), (2, .int 21)]) (st' := [.int 1]) (M' := s_M0) rfl ?_
                    refine s_ek_ret (o := some (.int 1)) (fun _ => rfl) ?_
                    show s_Ek (s_rows 3 L xs) 1299 s_e229.1 34 [(0, .ref 151), (1, .int a), (2, .int b)] [.int 1] s_M0 _
                    refine s_ek_bk 2 (P := 38) (ls' := [(0, .ref 151), (1, .int a), (2, .int b)]) (st' := [.int a]) (M' := s_M0) rfl ?_
                    refine s_ek_if1 (T := 46) rfl rfl (fun h10 => ?_) (fun h10 => ?_)
                    · replace h10 : a.toInt = 0 := h10
                      refine s_ek_bk 2 (P := 49) (ls' := [(0, .ref 151), (1, .int a), (2, .int b)]) (st' := [.int 20, .int b]) (M' := s_M0) rfl ?_
                      refine s_ek_if2 (T := 59) rfl rfl (fun h11 => ?_) (fun h11 => ?_)
                      · replace h11 : ¬ b.toInt = 20 := h11
                        refine s_ek_bk 2 (P := 63) (ls' := [(0, .ref 151), (1, .int a), (2, .int b)]) (st' := [.int 99]) (M' := s_M0) rfl ?_
                        refine s_ek_ret (o := some (.int 99)) (fun _ => rfl) ?_
                        exact rfl
                      · replace h11 : ¬ (¬ b.toInt = 20) := h11
                        replace h11 : b.toInt = 20 := by omega
                        omega
                    · replace h10 : ¬ (a.toInt = 0) := h10
                      replace h10 : ¬ a.toInt = 0 := by omega
                      omega
              · replace h7 : ¬ (¬ b.toInt = 10) := h7
                replace h7 : b.toInt = 10 := by omega
                omega
        · replace h4 : ¬ (¬ b.toInt = 20) := h4
          replace h4 : b.toInt = 20 := by omega
          refine s_ek_bk 1 (P := 71) (ls' := [(0, .ref 0), (1, .int a), (2, .int b)]) (st' := [.int a]) (M' := s_M0) rfl ?_
          refine s_ek_if1 (T := 82) rfl rfl (fun h5 => ?_) (fun h5 => ?_)
          · replace h5 : ¬ a.toInt = 0 := h5
            refine s_ek_bk 2 (P := 85) (ls' := [(0, .ref 0), (1, .int a), (2, .int b)]) (st' := [.int 21, .int b]) (M' := s_M0) rfl ?_
            refine s_ek_if2 (T := 102) rfl rfl (fun h6 => ?_) (fun h6 => ?_)
            · replace h6 : ¬ b.toInt = 21 := h6
              refine s_ek_bk 1 (P := 104) (ls' := [(0, .ref 0), (1, .int a), (2, .int b)]) (st' := [.int (-2000000000)]) (M' := s_M0) rfl ?_
              refine s_ek_ret (o := some (.int (-2000000000))) (fun _ => rfl) ?_
              refine ⟨(-2000000000), rfl, ?_⟩
              show s_Ek (s_rows 3 L xs) 1299 s_e229.1 0 [(0, .ref 151), (1, .int a), (2, .int b)] [] s_M0 _
              refine s_ek_bk 2 (P := 3) (ls' := [(0, .ref 151), (1, .int a), (2, .int b)]) (st' := [.int 10, .int b]) (M' := s_M0) rfl ?_
              refine s_ek_if2 (T := 26) rfl rfl (fun h7 => ?_) (fun h7 => ?_)
              · replace h7 : ¬ b.toInt = 10 := h7
                refine s_ek_bk 3 (P := 31) (ls' := [(0, .ref 151), (1, .int a), (2, .int b)]) (st' := [.int 21, .int 20, .int b]) (M' := s_M0) rfl ?_
                refine s_ek_call (ν := s_e181.1) (P := 34) (as := [.int b, .int 20, .int 21]) (r := []) (fun _ => rfl) rfl ?_
                show s_Ek (s_rows 3 L xs) 1298 s_e181.1 0 [(0, .int b), (1, .int 20), (2, .int 21)] [] s_M0 _
                refine s_ek_bk 2 (P := 2) (ls' := [(0, .int b), (1, .int 20), (2, .int 21)]) (st' := [.int 20, .int b]) (M' := s_M0) rfl ?_
                refine s_ek_if2 (T := 14) rfl rfl (fun h8 => ?_) (fun h8 => ?_)
                · replace h8 : b.toInt < 20 := h8
                  omega
                · replace h8 : ¬ (b.toInt < 20) := h8
                  replace h8 : 20 ≤ b.toInt := by omega
                  refine s_ek_bk 2 (P := 7) (ls' := [(0, .int b), (1, .int 20), (2, .int 21)]) (st' := [.int 21, .int b]) (M' := s_M0) rfl ?_
                  refine s_ek_if2 (T := 14) rfl rfl (fun h9 => ?_) (fun h9 => ?_)
                  · replace h9 : 21 < b.toInt := h9
                    omega
                  · replace h9 : ¬ (21 < b.toInt) := h9
                    replace h9 : b.toInt ≤ 21 := by omega
                    refine s_ek_bk 2 (P := 15) (ls' := [(0, .int b), (1, .int 20), (2, .int 21)]) (st' := [.int 1]) (M' := s_M0) rfl ?_
                    refine s_ek_ret (o := some (.int 1)) (fun _ => rfl) ?_
                    show s_Ek (s_rows 3 L xs) 1299 s_e229.1 34 [(0, .ref 151), (1, .int a), (2, .int b)] [.int 1] s_M0 _
                    refine s_ek_bk 2 (P := 38) (ls' := [(0, .ref 151), (1, .int a), (2, .int b)]) (st' := [.int a]) (M' := s_M0) rfl ?_
                    refine s_ek_if1 (T := 46) rfl rfl (fun h10 => ?_) (fun h10 => ?_)
                    · replace h10 : a.toInt = 0 := h10
                      omega
                    · replace h10 : ¬ (a.toInt = 0) := h10
                      replace h10 : ¬ a.toInt = 0 := by omega
                      refine s_ek_bk 2 (P := 63) (ls' := [(0, .ref 151), (1, .int a), (2, .int b)]) (st' := [.int (-2000000000)]) (M' := s_M0) rfl ?_
                      refine s_ek_ret (o := some (.int (-2000000000))) (fun _ => rfl) ?_
                      exact rfl
              · replace h7 : ¬ (¬ b.toInt = 10) := h7
                replace h7 : b.toInt = 10 := by omega
                omega
            · replace h6 : ¬ (¬ b.toInt = 21) := h6
              replace h6 : b.toInt = 21 := by omega
              omega
          · replace h5 : ¬ (¬ a.toInt = 0) := h5
            replace h5 : a.toInt = 0 := by omega
            refine s_ek_bk 3 (P := 81) (ls' := [(0, .ref 0), (1, .int a), (2, .int b)]) (st' := [.int 0]) (M' := s_M0) rfl ?_
            refine s_ek_ret (o := some (.int 0)) (fun _ => rfl) ?_
            refine ⟨0, rfl, ?_⟩
            show s_Ek (s_rows 3 L xs) 1299 s_e229.1 0 [(0, .ref 151), (1, .int a), (2, .int b)] [] s_M0 _
            refine s_ek_bk 2 (P := 3) (ls' := [(0, .ref 151), (1, .int a), (2, .int b)]) (st' := [.int 10, .int b]) (M' := s_M0) rfl ?_
            refine s_ek_if2 (T := 26) rfl rfl (fun h6 => ?_) (fun h6 => ?_)
            · replace h6 : ¬ b.toInt = 10 := h6
              refine s_ek_bk 3 (P := 31) (ls' := [(0, .ref 151), (1, .int a), (2, .int b)]) (st' := [.int 21, .int 20, .int b]) (M' := s_M0) rfl ?_
              refine s_ek_call (ν := s_e181.1) (P := 34) (as := [.int b, .int 20, .int 21]) (r := []) (fun _ => rfl) rfl ?_
              show s_Ek (s_rows 3 L xs) 1298 s_e181.1 0 [(0, .int b), (1, .int 20), (2, .int 21)] [] s_M0 _
              refine s_ek_bk 2 (P := 2) (ls' := [(0, .int b), (1, .int 20), (2, .int 21)]) (st' := [.int 20, .int b]) (M' := s_M0) rfl ?_
              refine s_ek_if2 (T := 14) rfl rfl (fun h7 => ?_) (fun h7 => ?_)
              · replace h7 : b.toInt < 20 := h7
                omega
              · replace h7 : ¬ (b.toInt < 20) := h7
                replace h7 : 20 ≤ b.toInt := by omega
                refine s_ek_bk 2 (P := 7) (ls' := [(0, .int b), (1, .int 20), (2, .int 21)]) (st' := [.int 21, .int b]) (M' := s_M0) rfl ?_
                refine s_ek_if2 (T := 14) rfl rfl (fun h8 => ?_) (fun h8 => ?_)
                · replace h8 : 21 < b.toInt := h8
                  omega
                · replace h8 : ¬ (21 < b.toInt) := h8
                  replace h8 : b.toInt ≤ 21 := by omega
                  refine s_ek_bk 2 (P := 15) (ls' := [(0, .int b), (1, .int 20), (2, .int 21)]) (st' := [.int 1]) (M' := s_M0) rfl ?_
                  refine s_ek_ret (o := some (.int 1)) (fun _ => rfl) ?_
                  show s_Ek (s_rows 3 L xs) 1299 s_e229.1 34 [(0, .ref 151), (1, .int a), (2, .int b)] [.int 1] s_M0 _
                  refine s_ek_bk 2 (P := 38) (ls' := [(0, .ref 151), (1, .int a), (2, .int b)]) (st' := [.int a]) (M' := s_M0) rfl ?_
                  refine s_ek_if1 (T := 46) rfl rfl (fun h9 => ?_) (fun h9 => ?_)
                  · replace h9 : a.toInt = 0 := h9
                    refine s_ek_bk 2 (P := 49) (ls' := [(0, .ref 151), (1, .int a), (2, .int b)]) (st' := [.int 20, .int b]) (M' := s_M0) rfl ?_
                    refine s_ek_if2 (T := 59) rfl rfl (fun h10 => ?_) (fun h10 => ?_)
                    · replace h10 : ¬ b.toInt = 20 := h10
                      omega
                    · replace h10 : ¬ (¬ b.toInt = 20) := h10
                      replace h10 : b.toInt = 20 := by omega
                      refine s_ek_bk 3 (P := 63) (ls' := [(0, .ref 151), (1, .int a), (2, .int b)]) (st' := [.int 0]) (M' := s_M0) rfl ?_
                      refine s_ek_ret (o := some (.int 0)) (fun _ => rfl) ?_
                      exact rfl
                  · replace h9 : ¬ (a.toInt = 0) := h9
                    replace h9 : ¬ a.toInt = 0 := by omega
                    omega
            · replace h6 : ¬ (¬ b.toInt = 10) := h6
              replace h6 : b.toInt = 10 := by omega
              omega
      · replace h3 : ¬ (¬ b.toInt = 10) := h3
        replace h3 : b.toInt = 10 := by omega
        refine s_ek_bk 1 (P := 39) (ls' := [(0, .ref 0), (1, .int a), (2, .int b)]) (st' := [.int a]) (M' := s_M0) rfl ?_
        refine s_ek_call (ν := s_e172.1) (P := 42) (as := [.int a]) (r := []) (fun _ => rfl) rfl ?_
        show s_Ek (s_rows 3 L xs) 1298 s_e172.1 0 [(0, .int a)] [] s_M0 _
        refine s_ek_bk 1 (P := 1) (ls' := [(0, .int a)]) (st' := [.int a]) (M' := s_M0) rfl ?_
        refine s_ek_if1 (T := 13) rfl rfl (fun h4 => ?_) (fun h4 => ?_)
        · replace h4 : a.toInt < 0 := h4
          refine s_ek_bk 1 (P := 14) (ls' := [(0, .int a)]) (st' := [.int 0]) (M' := s_M0) rfl ?_
          refine s_ek_ret (o := some (.int 0)) (fun _ => rfl) ?_
          show s_Ek (s_rows 3 L xs) 1299 s_e141.1 42 [(0, .ref 0), (1, .int a), (2, .int b)] [.int 0] s_M0 _
          refine s_ek_bk 3 (P := 67) (ls' := [(0, .ref 0), (1, .int a), (2, .int b)]) (st' := [.int 20, .int b]) (M' := s_M0) rfl ?_
          refine s_ek_if2 (T := 82) rfl rfl (fun h5 => ?_) (fun h5 => ?_)
          · replace h5 : ¬ b.toInt = 20 := h5
            refine s_ek_bk 2 (P := 85) (ls' := [(0, .ref 0), (1, .int a), (2, .int b)]) (st' := [.int 21, .int b]) (M' := s_M0) rfl ?_
            refine s_ek_if2 (T := 102) rfl rfl (fun h6 => ?_) (fun h6 => ?_)
            · replace h6 : ¬ b.toInt = 21 := h6
              refine s_ek_bk 1 (P := 104) (ls' := [(0, .ref 0), (1, .int a), (2, .int b)]) (st' := [.int (-2000000000)]) (M' := s_M0) rfl ?_
              refine s_ek_ret (o := some (.int (-2000000000))) (fun _ => rfl) ?_
              refine ⟨(-2000000000), rfl, ?_⟩
              show s_Ek (s_rows 3 L xs) 1299 s_e229.1 0 [(0, .ref 151), (1, .int a), (2, .int b)] [] s_M0 _
              refine s_ek_bk 2 (P := 3) (ls' := [(0, .ref 151), (1, .int a), (2, .int b)]) (st' := [.int 10, .int b]) (M' := s_M0) rfl ?_
              refine s_ek_if2 (T := 26) rfl rfl (fun h7 => ?_) (fun h7 => ?_)
              · replace h7 : ¬ b.toInt = 10 := h7
                omega
              · replace h7 : ¬ (¬ b.toInt = 10) := h7
                replace h7 : b.toInt = 10 := by omega
                refine s_ek_bk 3 (P := 9) (ls' := [(0, .ref 151), (1, .int a), (2, .int b)]) (st' := [.int 2, .int 0, .int a]) (M' := s_M0) rfl ?_
                refine s_ek_call (ν := s_e181.1) (P := 12) (as := [.int a, .int 0, .int 2]) (r := []) (fun _ => rfl) rfl ?_
                show s_Ek (s_rows 3 L xs) 1298 s_e181.1 0 [(0, .int a), (1, .int 0), (2, .int 2)] [] s_M0 _
                refine s_ek_bk 2 (P := 2) (ls' := [(0, .int a), (1, .int 0), (2, .int 2)]) (st' := [.int 0, .int a]) (M' := s_M0) rfl ?_
                refine s_ek_if2 (T := 14) rfl rfl (fun h8 => ?_) (fun h8 => ?_)
                · replace h8 : a.toInt < 0 := h8
                  refine s_ek_bk 1 (P := 15) (ls' := [(0, .int a), (1, .int 0), (2, .int 2)]) (st' := [.int 0]) (M' := s_M0) rfl ?_
                  refine s_ek_ret (o := some (.int 0)) (fun _ => rfl) ?_
                  show s_Ek (s_rows 3 L xs) 1299 s_e229.1 12 [(0, .ref 151), (1, .int a), (2, .int b)] [.int 0] s_M0 _
                  refine s_ek_bk 2 (P := 25) (ls' := [(0, .ref 151), (1, .int a), (2, .int b)]) (st' := [.int (-2000000000)]) (M' := s_M0) rfl ?_
                  refine s_ek_ret (o := some (.int (-2000000000))) (fun _ => rfl) ?_
                  exact rfl
                · replace h8 : ¬ (a.toInt < 0) := h8
                  replace h8 : 0 ≤ a.toInt := by omega
                  omega
            · replace h6 : ¬ (¬ b.toInt = 21) := h6
              replace h6 : b.toInt = 21 := by omega
              omega
          · replace h5 : ¬ (¬ b.toInt = 20) := h5
            replace h5 : b.toInt = 20 := by omega
            omega
        · replace h4 : ¬ (a.toInt < 0) := h4
          replace h4 : 0 ≤ a.toInt := by omega
          refine s_ek_bk 2 (P := 6) (ls' := [(0, .int a)]) (st' := [.int 3, .int a]) (M' := s_M0) rfl ?_
          refine s_ek_if2 (T := 13) rfl rfl (fun h5 => ?_) (fun h5 => ?_)
          · replace h5 : 3 ≤ a.toInt := h5
            refine s_ek_bk 1 (P := 14) (ls' := [(0, .int a)]) (st' := [.int 0]) (M' := s_M0) rfl ?_
            refine s_ek_ret (o := some (.int 0)) (fun _ => rfl) ?_
            show s_Ek (s_rows 3 L xs) 1299 s_e141.1 42 [(0, .ref 0), (1, .int a), (2, .int b)] [.int 0] s_M0 _
            refine s_ek_bk 3 (P := 67) (ls' := [(0, .ref 0), (1, .int a), (2, .int b)]) (st' := [.int 20, .int b]) (M' := s_M0) rfl ?_
            refine s_ek_if2 (T := 82) rfl rfl (fun h6 => ?_) (fun h6 => ?_)
            · replace h6 : ¬ b.toInt = 20 := h6
              refine s_ek_bk 2 (P := 85) (ls' := [(0, .ref 0), (1, .int a), (2, .int b)]) (st' := [.int 21, .int b]) (M' := s_M0) rfl ?_
              refine s_ek_if2 (T := 102) rfl rfl (fun h7 => ?_) (fun h7 => ?_)
              · replace h7 : ¬ b.toInt = 21 := h7
                refine s_ek_bk 1 (P := 104) (ls' := [(0, .ref 0), (1, .int a), (2, .int b)]) (st' := [.int (-2000000000)]) (M' := s_M0) rfl ?_
                refine s_ek_ret (o := some (.int (-2000000000))) (fun _ => rfl) ?_
                refine ⟨(-2000000000), rfl, ?_⟩
                show s_Ek (s_rows 3 L xs) 1299 s_e229.1 0 [(0, .ref 151), (1, .int a), (2, .int b)] [] s_M0 _
                refine s_ek_bk 2 (P := 3) (ls' := [(0, .ref 151), (1, .int a), (2, .int b)]) (st' := [.int 10, .int b]) (M' := s_M0) rfl ?_
                refine s_ek_if2 (T := 26) rfl rfl (fun h8 => ?_) (fun h8 => ?_)
                · replace h8 : ¬ b.toInt = 10 := h8
                  omega
                · replace h8 : ¬ (¬ b.toInt = 10) := h8
                  replace h8 : b.toInt = 10 := by omega
                  refine s_ek_bk 3 (P := 9) (ls' := [(0, .ref 151), (1, .int a), (2, .int b)]) (st' := [.int 2, .int 0, .int a]) (M' := s_M0) rfl ?_
                  refine s_ek_call (ν := s_e181.1) (P := 12) (as := [.int a, .int 0, .int 2]) (r := []) (fun _ => rfl) rfl ?_
                  show s_Ek (s_rows 3 L xs) 1298 s_e181.1 0 [(0, .int a), (1, .int 0), (2, .int 2)] [] s_M0 _
                  refine s_ek_bk 2 (P := 2) (ls' := [(0, .int a), (1, .int 0), (2, .int 2)]) (st' := [.int 0, .int a]) (M' := s_M0) rfl ?_
                  refine s_ek_if2 (T := 14) rfl rfl (fun h9 => ?_) (fun h9 => ?_)
                  · replace h9 : a.toInt < 0 := h9
                    omega
                  · replace h9 : ¬ (a.toInt < 0) := h9
                    replace h9 : 0 ≤ a.toInt := by omega
                    refine s_ek_bk 2 (P := 7) (ls' := [(0, .int a), (1, .int 0), (2, .int 2)]) (st' := [.int 2, .int a]) (M' := s_M0) rfl ?_
                    refine s_ek_if2 (T := 14) rfl rfl (fun h10 => ?_) (fun h10 => ?_)
                    · replace h10 : 2 < a.toInt := h10
                      refine s_ek_bk 1 (P := 15) (ls' := [(0, .int a), (1, .int 0), (2, .int 2)]) (st' := [.int 0]) (M' := s_M0) rfl ?_
                      refine s_ek_ret (o := some (.int 0)) (fun _ => rfl) ?_
                      show s_Ek (s_rows 3 L xs) 1299 s_e229.1 12 [(0, .ref 151), (1, .int a), (2, .int b)] [.int 0] s_M0 _
                      refine s_ek_bk 2 (P := 25) (ls' := [(0, .ref 151), (1, .int a), (2, .int b)]) (st' := [.int (-2000000000)]) (M' := s_M0) rfl ?_
                      refine s_ek_ret (o := some (.int (-2000000000))) (fun _ => rfl) ?_
                      exact rfl
                    · replace h10 : ¬ (2 < a.toInt) := h10
                      replace h10 : a.toInt ≤ 2 := by omega
                      omega
              · replace h7 : ¬ (¬ b.toInt = 21) := h7
                replace h7 : b.toInt = 21 := by omega
                omega
            · replace h6 : ¬ (¬ b.toInt = 20) := h6
              replace h6 : b.toInt = 20 := by omega
              omega
          · replace h5 : ¬ (3 ≤ a.toInt) := h5
            replace h5 : a.toInt < 3 := by omega
            refine s_ek_bk 2 (P := 14) (ls' := [(0, .int a)]) (st' := [.int 1]) (M' := s_M0) rfl ?_
            refine s_ek_ret (o := some (.int 1)) (fun _ => rfl) ?_
            show s_Ek (s_rows 3 L xs) 1299 s_e141.1 42 [(0, .ref 0), (1, .int a), (2, .int b)] [.int 1] s_M0 _
            refine s_ek_bk 8 (P := 60) (ls' := [(0, .ref 0), (1, .int a), (2, .int b)]) (st' := [.int 99, .int a, .ref 9]) (M' := s_M0) rfl ?_
            refine s_ek_call (ν := s_e130.1) (P := 63) (as := [.ref 9, .int a, .int 99]) (r := []) (fun _ => rfl) rfl ?_
            show s_Ek (s_rows 3 L xs) 1298 s_e130.1 0 [(0, .ref 9), (1, .int a), (2, .int 99)] [] s_M0 _
            refine s_ek_bk 2 (P := 2) (ls' := [(0, .ref 9), (1, .int a), (2, .int 99)]) (st' := [.int a, .ref 9]) (M' := s_M0) rfl ?_
            refine s_ek_call (ν := s_e128.1) (P := 5) (as := [.ref 9, .int a]) (r := []) (fun _ => rfl) rfl ?_
            show s_Ek (s_rows 3 L xs) 1297 s_e128.1 0 [(0, .ref 9), (1, .int a)] [] s_M0 _
            refine s_ek_bk 1 (P := 1) (ls' := [(0, .ref 9), (1, .int a)]) (st' := [.int a]) (M' := s_M0) rfl ?_
            refine s_ek_if1 (T := 18) rfl rfl (fun h6 => ?_) (fun h6 => ?_)
            · replace h6 : a.toInt < 0 := h6
              omega
            · replace h6 : ¬ (a.toInt < 0) := h6
              replace h6 : 0 ≤ a.toInt := by omega
              refine s_ek_bk 2 (P := 6) (ls' := [(0, .ref 9), (1, .int a)]) (st' := [.int 3, .int a]) (M' := s_M0) rfl ?_
              refine s_ek_if2 (T := 18) rfl rfl (fun h7 => ?_) (fun h7 => ?_)
              · replace h7 : 3 ≤ a.toInt := h7
                omega
              · replace h7 : ¬ (3 ≤ a.toInt) := h7
                replace h7 : a.toInt < 3 := by omega
                refine s_ek_bk 3 (P := 14) (ls' := [(0, .ref 9), (1, .int a)]) (st' := [.int a, .ref 10]) (M' := s_M0) rfl ?_
                rcases s_rg_0_2 (a := a) (by omega) (by omega) with rfl | rfl | rfl
                · refine s_ek_bk 2 (P := 19) (ls' := [(0, .ref 9), (1, .int 0)]) (st' := [.int (-1)]) (M' := s_M0) rfl ?_
                  refine s_ek_ret (o := some (.int (-1))) (fun _ => rfl) ?_
                  show s_Ek (s_rows 3 L xs) 1298 s_e130.1 5 [(0, .ref 9), (1, .int 0), (2, .int 99)] [.int (-1)] s_M0 _
                  refine s_ek_bk 3 (P := 26) (ls' := [(0, .ref 9), (1, .int 0), (2, .int 99)]) (st' := [.int 0]) (M' := s_M0) rfl ?_
                  refine s_ek_ret (o := some (.int 0)) (fun _ => rfl) ?_
                  show s_Ek (s_rows 3 L xs) 1299 s_e141.1 63 [(0, .ref 0), (1, .int 0), (2, .int b)] [.int 0] s_M0 _
                  refine s_ek_ret (o := some (.int 0)) (fun _ => rfl) ?_
                  refine ⟨0, rfl, ?_⟩
                  show s_Ek (s_rows 3 L xs) 1299 s_e229.1 0 [(0, .ref 151), (1, .int 0), (2, .int b)] [] s_M0 _
                  refine s_ek_bk 2 (P := 3) (ls' := [(0, .ref 151), (1, .int 0), (2, .int b)]) (st' := [.int 10, .int b]) (M' := s_M0) rfl ?_
                  refine s_ek_if2 (T := 26) rfl rfl (fun h8 => ?_) (fun h8 => ?_)
                  · replace h8 : ¬ b.toInt = 10 := h8
                    omega
                  · replace h8 : ¬ (¬ b.toInt = 10) := h8
                    replace h8 : b.toInt = 10 := by omega
                    refine s_ek_bk 3 (P := 9) (ls' := [(0, .ref 151), (1, .int 0), (2, .int b)]) (st' := [.int 2, .int 0, .int 0]) (M' := s_M0) rfl ?_
                    refine s_ek_call (ν := s_e181.1) (P := 12) (as := [.int 0, .int 0, .int 2]) (r := []) (fun _ => rfl) rfl ?_
                    show s_Ek (s_rows 3 L xs) 1298 s_e181.1 0 [(0, .int 0), (1, .int 0), (2, .int 2)] [] s_M0 _
                    refine s_ek_bk 8 (P := 15) (ls' := [(0, .int 0), (1, .int 0), (2, .int 2)]) (st' := [.int 1]) (M' := s_M0) rfl ?_
                    refine s_ek_ret (o := some (.int 1)) (fun _ => rfl) ?_
                    show s_Ek (s_rows 3 L xs) 1299 s_e229.1 12 [(0, .ref 151), (1, .int 0), (2, .int b)] [.int 1] s_M0 _
                    refine s_ek_bk 3 (P := 17) (ls' := [(0, .ref 151), (1, .int 0), (2, .int b)]) (st' := [.int 0, .ref 151]) (M' := s_M0) rfl ?_
                    refine s_ek_call (ν := s_e215.1) (P := 20) (as := [.ref 151, .int 0]) (r := []) (fun _ => rfl) rfl ?_
                    show s_Ek (s_rows 3 L xs) 1298 s_e215.1 0 [(0, .ref 151), (1, .int 0)] [] s_M0 _
                    refine s_ek_bk 6 (P := 32) (ls' := [(0, .ref 151), (1, .int 0)]) (st' := [.int 0]) (M' := s_M0) rfl ?_
                    refine s_ek_ret (o := some (.int 0)) (fun _ => rfl) ?_
                    show s_Ek (s_rows 3 L xs) 1299 s_e229.1 20 [(0, .ref 151), (1, .int 0), (2, .int b)] [.int 0] s_M0 _
                    refine s_ek_bk 1 (P := 25) (ls' := [(0, .ref 151), (1, .int 0), (2, .int b)]) (st' := [.int 0]) (M' := s_M0) rfl ?_
                    refine s_ek_ret (o := some (.int 0)) (fun _ => rfl) ?_
                    exact rfl
                · refine s_ek_bk 2 (P := 19) (ls' := [(0, .ref 9), (1, .int 1)]) (st' := [.int (-1)]) (M' := s_M0) rfl ?_
                  refine s_ek_ret (o := some (.int (-1))) (fun _ => rfl) ?_
                  show s_Ek (s_rows 3 L xs) 1298 s_e130.1 5 [(0, .ref 9), (1, .int 1), (2, .int 99)] [.int (-1)] s_M0 _
                  refine s_ek_bk 3 (P := 26) (ls' := [(0, .ref 9), (1, .int 1), (2, .int 99)]) (st' := [.int 1]) (M' := s_M0) rfl ?_
                  refine s_ek_ret (o := some (.int 1)) (fun _ => rfl) ?_
                  show s_Ek (s_rows 3 L xs) 1299 s_e141.1 63 [(0, .ref 0), (1, .int 1), (2, .int b)] [.int 1] s_M0 _
                  refine s_ek_ret (o := some (.int 1)) (fun _ => rfl) ?_
                  refine ⟨1, rfl, ?_⟩
                  show s_Ek (s_rows 3 L xs) 1299 s_e229.1 0 [(0, .ref 151), (1, .int 1), (2, .int b)] [] s_M0 _
                  refine s_ek_bk 2 (P := 3) (ls' := [(0, .ref 151), (1, .int 1), (2, .int b)]) (st' := [.int 10, .int b]) (M' := s_M0) rfl ?_
                  refine s_ek_if2 (T := 26) rfl rfl (fun h8 => ?_) (fun h8 => ?_)
                  · replace h8 : ¬ b.toInt = 10 := h8
                    omega
                  · replace h8 : ¬ (¬ b.toInt = 10) := h8
                    replace h8 : b.toInt = 10 := by omega
                    refine s_ek_bk 3 (P := 9) (ls' := [(0, .ref 151), (1, .int 1), (2, .int b)]) (st' := [.int 2, .int 0, .int 1]) (M' := s_M0) rfl ?_
                    refine s_ek_call (ν := s_e181.1) (P := 12) (as := [.int 1, .int 0, .int 2]) (r := []) (fun _ => rfl) rfl ?_
                    show s_Ek (s_rows 3 L xs) 1298 s_e181.1 0 [(0, .int 1), (1, .int 0), (2, .int 2)] [] s_M0 _
                    refine s_ek_bk 8 (P := 15) (ls' := [(0, .int 1), (1, .int 0), (2, .int 2)]) (st' := [.int 1]) (M' := s_M0) rfl ?_
                    refine s_ek_ret (o := some (.int 1)) (fun _ => rfl) ?_
                    show s_Ek (s_rows 3 L xs) 1299 s_e229.1 12 [(0, .ref 151), (1, .int 1), (2, .int b)] [.int 1] s_M0 _
                    refine s_ek_bk 3 (P := 17) (ls' := [(0, .ref 151), (1, .int 1), (2, .int b)]) (st' := [.int 1, .ref 151]) (M' := s_M0) rfl ?_
                    refine s_ek_call (ν := s_e215.1) (P := 20) (as := [.ref 151, .int 1]) (r := []) (fun _ => rfl) rfl ?_
                    show s_Ek (s_rows 3 L xs) 1298 s_e215.1 0 [(0, .ref 151), (1, .int 1)] [] s_M0 _
                    refine s_ek_bk 6 (P := 32) (ls' := [(0, .ref 151), (1, .int 1)]) (st' := [.int 1]) (M' := s_M0) rfl ?_
                    refine s_ek_ret (o := some (.int 1)) (fun _ => rfl) ?_
                    show s_Ek (s_rows 3 L xs) 1299 s_e229.1 20 [(0, .ref 151), (1, .int 1), (2, .int b)] [.int 1] s_M0 _
                    refine s_ek_bk 1 (P := 25) (ls' := [(0, .ref 151), (1, .int 1), (2, .int b)]) (st' := [.int 1]) (M' := s_M0) rfl ?_
                    refine s_ek_ret (o := some (.int 1)) (fun _ => rfl) ?_
                    exact rfl
                · refine s_ek_bk 2 (P := 19) (ls' := [(0, .ref 9), (1, .int 2)]) (st' := [.int (-1)]) (M' := s_M0) rfl ?_
                  refine s_ek_ret (o := some (.int (-1))) (fun _ => rfl) ?_
                  show s_Ek (s_rows 3 L xs) 1298 s_e130.1 5 [(0, .ref 9), (1, .int 2), (2, .int 99)] [.int (-1)] s_M0 _
                  refine s_ek_bk 3 (P := 26) (ls' := [(0, .ref 9), (1, .int 2), (2, .int 99)]) (st' := [.int 2]) (M' := s_M0) rfl ?_
                  refine s_ek_ret (o := some (.int 2)) (fun _ => rfl) ?_
                  show s_Ek (s_rows 3 L xs) 1299 s_e141.1 63 [(0, .ref 0), (1, .int 2), (2, .int b)] [.int 2] s_M0 _
                  refine s_ek_ret (o := some (.int 2)) (fun _ => rfl) ?_
                  refine ⟨2, rfl, ?_⟩
                  show s_Ek (s_rows 3 L xs) 1299 s_e229.1 0 [(0, .ref 151), (1, .int 2), (2, .int b)] [] s_M0 _
                  refine s_ek_bk 2 (P := 3) (ls' := [(0, .ref 151), (1, .int 2), (2, .int b)]) (st' := [.int 10, .int b]) (M' := s_M0) rfl ?_
                  refine s_ek_if2 (T := 26) rfl rfl (fun h8 => ?_) (fun h8 => ?_)
                  · replace h8 : ¬ b.toInt = 10 := h8
                    omega
                  · replace h8 : ¬ (¬ b.toInt = 10) := h8
                    replace h8 : b.toInt = 10 := by omega
                    refine s_ek_bk 3 (P := 9) (ls' := [(0, .ref 151), (1, .int 2), (2, .int b)]) (st' := [.int 2, .int 0, .int 2]) (M' := s_M0) rfl ?_
                    refine s_ek_call (ν := s_e181.1) (P := 12) (as := [.int 2, .int 0, .int 2]) (r := []) (fun _ => rfl) rfl ?_
                    show s_Ek (s_rows 3 L xs) 1298 s_e181.1 0 [(0, .int 2), (1, .int 0), (2, .int 2)] [] s_M0 _
                    refine s_ek_bk 8 (P := 15) (ls' := [(0, .int 2), (1, .int 0), (2, .int 2)]) (st' := [.int 1]) (M' := s_M0) rfl ?_
                    refine s_ek_ret (o := some (.int 1)) (fun _ => rfl) ?_
                    show s_Ek (s_rows 3 L xs) 1299 s_e229.1 12 [(0, .ref 151), (1, .int 2), (2, .int b)] [.int 1] s_M0 _
                    refine s_ek_bk 3 (P := 17) (ls' := [(0, .ref 151), (1, .int 2), (2, .int b)]) (st' := [.int 2, .ref 151]) (M' := s_M0) rfl ?_
                    refine s_ek_call (ν := s_e215.1) (P := 20) (as := [.ref 151, .int 2]) (r := []) (fun _ => rfl) rfl ?_
                    show s_Ek (s_rows 3 L xs) 1298 s_e215.1 0 [(0, .ref 151), (1, .int 2)] [] s_M0 _
                    refine s_ek_bk 6 (P := 32) (ls' := [(0, .ref 151), (1, .int 2)]) (st' := [.int 2]) (M' := s_M0) rfl ?_
                    refine s_ek_ret (o := some (.int 2)) (fun _ => rfl) ?_
                    show s_Ek (s_rows 3 L xs) 1299 s_e229.1 20 [(0, .ref 151), (1, .int 2), (2, .int b)] [.int 2] s_M0 _
                    refine s_ek_bk 1 (P := 25) (ls' := [(0, .ref 151), (1, .int 2), (2, .int b)]) (st' := [.int 2]) (M' := s_M0) rfl ?_
                    refine s_ek_ret (o := some (.int 2)) (fun _ => rfl) ?_
                    exact rfl
    · replace h2 : ¬ (5 < b.toInt) := h2
      replace h2 : b.toInt ≤ 5 := by omega
      refine s_ek_bk 3 (P := 14) (ls' := [(0, .ref 0), (1, .int a), (2, .int b)]) (st' := [.int a, .ref 8]) (M' := s_M0) rfl ?_
      refine s_ek_call (ν := s_e40.1) (P := 17) (as := [.ref 8, .int a]) (r := []) (fun _ => rfl) rfl ?_
      show s_Ek (s_rows 3 L xs) 1298 s_e40.1 0 [(0, .ref 8), (1, .int a)] [] s_M0 _
      refine s_ek_bk 1 (P := 1) (ls' := [(0, .ref 8), (1, .int a)]) (st' := [.int a]) (M' := s_M0) rfl ?_
      refine s_ek_if1 (T := 16) rfl rfl (fun h3 => ?_) (fun h3 => ?_)
      · replace h3 : a.toInt < 0 := h3
        refine s_ek_bk 1 (P := 17) (ls' := [(0, .ref 8), (1, .int a)]) (st' := [.int 0]) (M' := s_M0) rfl ?_
        refine s_ek_ret (o := some (.int 0)) (fun _ => rfl) ?_
        show s_Ek (s_rows 3 L xs) 1299 s_e141.1 17 [(0, .ref 0), (1, .int a), (2, .int b)] [.int 0] s_M0 _
        refine s_ek_bk 2 (P := 31) (ls' := [(0, .ref 0), (1, .int a), (2, .int b)]) (st' := [.int (-2000000000)]) (M' := s_M0) rfl ?_
        refine s_ek_ret (o := some (.int (-2000000000))) (fun _ => rfl) ?_
        refine ⟨(-2000000000), rfl, ?_⟩
        show s_Ek (s_rows 3 L xs) 1299 s_e229.1 0 [(0, .ref 151), (1, .int a), (2, .int b)] [] s_M0 _
        refine s_ek_bk 2 (P := 3) (ls' := [(0, .ref 151), (1, .int a), (2, .int b)]) (st' := [.int 10, .int b]) (M' := s_M0) rfl ?_
        refine s_ek_if2 (T := 26) rfl rfl (fun h4 => ?_) (fun h4 => ?_)
        · replace h4 : ¬ b.toInt = 10 := h4
          refine s_ek_bk 3 (P := 31) (ls' := [(0, .ref 151), (1, .int a), (2, .int b)]) (st' := [.int 21, .int 20, .int b]) (M' := s_M0) rfl ?_
          refine s_ek_call (ν := s_e181.1) (P := 34) (as := [.int b, .int 20, .int 21]) (r := []) (fun _ => rfl) rfl ?_
          show s_Ek (s_rows 3 L xs) 1298 s_e181.1 0 [(0, .int b), (1, .int 20), (2, .int 21)] [] s_M0 _
          refine s_ek_bk 2 (P := 2) (ls' := [(0, .int b), (1, .int 20), (2, .int 21)]) (st' := [.int 20, .int b]) (M' := s_M0) rfl ?_
          refine s_ek_if2 (T := 14) rfl rfl (fun h5 => ?_) (fun h5 => ?_)
          · replace h5 : b.toInt < 20 := h5
            refine s_ek_bk 1 (P := 15) (ls' := [(0, .int b), (1, .int 20), (2, .int 21)]) (st' := [.int 0]) (M' := s_M0) rfl ?_
            refine s_ek_ret (o := some (.int 0)) (fun _ => rfl) ?_
            show s_Ek (s_rows 3 L xs) 1299 s_e229.1 34 [(0, .ref 151), (1, .int a), (2, .int b)] [.int 0] s_M0 _
            refine s_ek_bk 4 (P := 67) (ls' := [(0, .ref 151), (1, .int a), (2, .int b)]) (st' := [.int 5, .int 0, .int b]) (M' := s_M0) rfl ?_
            refine s_ek_call (ν := s_e181.1) (P := 70) (as := [.int b, .int 0, .int 5]) (r := []) (fun _ => rfl) rfl ?_
            show s_Ek (s_rows 3 L xs) 1298 s_e181.1 0 [(0, .int b), (1, .int 0), (2, .int 5)] [] s_M0 _
            refine s_ek_bk 2 (P := 2) (ls' := [(0, .int b), (1, .int 0), (2, .int 5)]) (st' := [.int 0, .int b]) (M' := s_M0) rfl ?_
            refine s_ek_if2 (T := 14) rfl rfl (fun h6 => ?_) (fun h6 => ?_)
            · replace h6 : b.toInt < 0 := h6
              omega
            · replace h6 : ¬ (b.toInt < 0) := h6
              replace h6 : 0 ≤ b.toInt := by omega
              refine s_ek_bk 2 (P := 7) (ls' := [(0, .int b), (1, .int 0), (2, .int 5)]) (st' := [.int 5, .int b]) (M' := s_M0) rfl ?_
              refine s_ek_if2 (T := 14) rfl rfl (fun h7 => ?_) (fun h7 => ?_)
              · replace h7 : 5 < b.toInt := h7
                omega
              · replace h7 : ¬ (5 < b.toInt) := h7
                replace h7 : b.toInt ≤ 5 := by omega
                refine s_ek_bk 2 (P := 15) (ls' := [(0, .int b), (1, .int 0), (2, .int 5)]) (st' := [.int 1]) (M' := s_M0) rfl ?_
                refine s_ek_ret (o := some (.int 1)) (fun _ => rfl) ?_
                show s_Ek (s_rows 3 L xs) 1299 s_e229.1 70 [(0, .ref 151), (1, .int a), (2, .int b)] [.int 1] s_M0 _
                refine s_ek_bk 3 (P := 75) (ls' := [(0, .ref 151), (1, .int a), (2, .int b)]) (st' := [.int a, .ref 151]) (M' := s_M0) rfl ?_
                refine s_ek_call (ν := s_e201.1) (P := 78) (as := [.ref 151, .int a]) (r := []) (fun _ => rfl) rfl ?_
                show s_Ek (s_rows 3 L xs) 1298 s_e201.1 0 [(0, .ref 151), (1, .int a)] [] s_M0 _
                refine s_ek_bk 6 (P := 8) (ls' := [(0, .ref 151), (1, .int a)]) (st' := [.int (-1), .int 0, .int a]) (M' := s_M0) rfl ?_
                refine s_ek_call (ν := s_e181.1) (P := 11) (as := [.int a, .int 0, .int (-1)]) (r := []) (fun _ => rfl) rfl ?_
                show s_Ek (s_rows 3 L xs) 1297 s_e181.1 0 [(0, .int a), (1, .int 0), (2, .int (-1))] [] s_M0 _
                refine s_ek_bk 2 (P := 2) (ls' := [(0, .int a), (1, .int 0), (2, .int (-1))]) (st' := [.int 0, .int a]) (M' := s_M0) rfl ?_
                refine s_ek_if2 (T := 14) rfl rfl (fun h8 => ?_) (fun h8 => ?_)
                · replace h8 : a.toInt < 0 := h8
                  refine s_ek_bk 1 (P := 15) (ls' := [(0, .int a), (1, .int 0), (2, .int (-1))]) (st' := [.int 0]) (M' := s_M0) rfl ?_
                  refine s_ek_ret (o := some (.int 0)) (fun _ => rfl) ?_
                  show s_Ek (s_rows 3 L xs) 1298 s_e201.1 11 [(0, .ref 151), (1, .int a)] [.int 0] s_M0 _
                  refine s_ek_ret (o := some (.int 0)) (fun _ => rfl) ?_
                  show s_Ek (s_rows 3 L xs) 1299 s_e229.1 78 [(0, .ref 151), (1, .int a), (2, .int b)] [.int 0] s_M0 _
                  refine s_ek_bk 2 (P := 83) (ls' := [(0, .ref 151), (1, .int a), (2, .int b)]) (st' := [.int (-2000000000)]) (M' := s_M0) rfl ?_
                  refine s_ek_ret (o := some (.int (-2000000000))) (fun _ => rfl) ?_
                  exact rfl
                · replace h8 : ¬ (a.toInt < 0) := h8
                  replace h8 : 0 ≤ a.toInt := by omega
                  omega
          · replace h5 : ¬ (b.toInt < 20) := h5
            replace h5 : 20 ≤ b.toInt := by omega
            omega
        · replace h4 : ¬ (¬ b.toInt = 10) := h4
          replace h4 : b.toInt = 10 := by omega
          omega
      · replace h3 : ¬ (a.toInt < 0) := h3
        replace h3 : 0 ≤ a.toInt := by omega
        refine s_ek_bk 3 (P := 9) (ls' := [(0, .ref 8), (1, .int a)]) (st' := [.int 0, .int a]) (M' := s_M0) rfl ?_
        refine s_ek_if2 (T := 16) rfl rfl (fun h4 => ?_) (fun h4 => ?_)
        · replace h4 : 0 ≤ a.toInt := h4
          refine s_ek_bk 1 (P := 17) (ls' := [(0, .ref 8), (1, .int a)]) (st' := [.int 0]) (M' := s_M0) rfl ?_
          refine s_ek_ret (o := some (.int 0)) (fun _ => rfl) ?_
          show s_Ek (s_rows 3 L xs) 1299 s_e141.1 17 [(0, .ref 0), (1, .int a), (2, .int b)] [.int 0] s_M0 _
          refine s_ek_bk 2 (P := 31) (ls' := [(0, .ref 0), (1, .int a), (2, .int b)]) (st' := [.int (-2000000000)]) (M' := s_M0) rfl ?_
          refine s_ek_ret (o := some (.int (-2000000000))) (fun _ => rfl) ?_
          refine ⟨(-2000000000), rfl, ?_⟩
          show s_Ek (s_rows 3 L xs) 1299 s_e229.1 0 [(0, .ref 151), (1, .int a), (2, .int b)] [] s_M0 _
          refine s_ek_bk 2 (P := 3) (ls' := [(0, .ref 151), (1, .int a), (2, .int b)]) (st' := [.int 10, .int b]) (M' := s_M0) rfl ?_
          refine s_ek_if2 (T := 26) rfl rfl (fun h5 => ?_) (fun h5 => ?_)
          · replace h5 : ¬ b.toInt = 10 := h5
            refine s_ek_bk 3 (P := 31) (ls' := [(0, .ref 151), (1, .int a), (2, .int b)]) (st' := [.int 21, .int 20, .int b]) (M' := s_M0) rfl ?_
            refine s_ek_call (ν := s_e181.1) (P := 34) (as := [.int b, .int 20, .int 21]) (r := []) (fun _ => rfl) rfl ?_
            show s_Ek (s_rows 3 L xs) 1298 s_e181.1 0 [(0, .int b), (1, .int 20), (2, .int 21)] [] s_M0 _
            refine s_ek_bk 2 (P := 2) (ls' := [(0, .int b), (1, .int 20), (2, .int 21)]) (st' := [.int 20, .int b]) (M' := s_M0) rfl ?_
            refine s_ek_if2 (T := 14) rfl rfl (fun h6 => ?_) (fun h6 => ?_)
            · replace h6 : b.toInt < 20 := h6
              refine s_ek_bk 1 (P := 15) (ls' := [(0, .int b), (1, .int 20), (2, .int 21)]) (st' := [.int 0]) (M' := s_M0) rfl ?_
              refine s_ek_ret (o := some (.int 0)) (fun _ => rfl) ?_
              show s_Ek (s_rows 3 L xs) 1299 s_e229.1 34 [(0, .ref 151), (1, .int a), (2, .int b)] [.int 0] s_M0 _
              refine s_ek_bk 4 (P := 67) (ls' := [(0, .ref 151), (1, .int a), (2, .int b)]) (st' := [.int 5, .int 0, .int b]) (M' := s_M0) rfl ?_
              refine s_ek_call (ν := s_e181.1) (P := 70) (as := [.int b, .int 0, .int 5]) (r := []) (fun _ => rfl) rfl ?_
              show s_Ek (s_rows 3 L xs) 1298 s_e181.1 0 [(0, .int b), (1, .int 0), (2, .int 5)] [] s_M0 _
              refine s_ek_bk 2 (P := 2) (ls' := [(0, .int b), (1, .int 0), (2, .int 5)]) (st' := [.int 0, .int b]) (M' := s_M0) rfl ?_
              refine s_ek_if2 (T := 14) rfl rfl (fun h7 => ?_) (fun h7 => ?_)
              · replace h7 : b.toInt < 0 := h7
                omega
              · replace h7 : ¬ (b.toInt < 0) := h7
                replace h7 : 0 ≤ b.toInt := by omega
                refine s_ek_bk 2 (P := 7) (ls' := [(0, .int b), (1, .int 0), (2, .int 5)]) (st' := [.int 5, .int b]) (M' := s_M0) rfl ?_
                refine s_ek_if2 (T := 14) rfl rfl (fun h8 => ?_) (fun h8 => ?_)
                · replace h8 : 5 < b.toInt := h8
                  omega
                · replace h8 : ¬ (5 < b.toInt) := h8
                  replace h8 : b.toInt ≤ 5 := by omega
                  refine s_ek_bk 2 (P := 15) (ls' := [(0, .int b), (1, .int 0), (2, .int 5)]) (st' := [.int 1]) (M' := s_M0) rfl ?_
                  refine s_ek_ret (o := some (.int 1)) (fun _ => rfl) ?_
                  show s_Ek (s_rows 3 L xs) 1299 s_e229.1 70 [(0, .ref 151), (1, .int a), (2, .int b)] [.int 1] s_M0 _
                  refine s_ek_bk 3 (P := 75) (ls' := [(0, .ref 151), (1, .int a), (2, .int b)]) (st' := [.int a, .ref 151]) (M' := s_M0) rfl ?_
                  refine s_ek_call (ν := s_e201.1) (P := 78) (as := [.ref 151, .int a]) (r := []) (fun _ => rfl) rfl ?_
                  show s_Ek (s_rows 3 L xs) 1298 s_e201.1 0 [(0, .ref 151), (1, .int a)] [] s_M0 _
                  refine s_ek_bk 6 (P := 8) (ls' := [(0, .ref 151), (1, .int a)]) (st' := [.int (-1), .int 0, .int a]) (M' := s_M0) rfl ?_
                  refine s_ek_call (ν := s_e181.1) (P := 11) (as := [.int a, .int 0, .int (-1)]) (r := []) (fun _ => rfl) rfl ?_
                  show s_Ek (s_rows 3 L xs) 1297 s_e181.1 0 [(0, .int a), (1, .int 0), (2, .int (-1))] [] s_M0 _
                  refine s_ek_bk 2 (P := 2) (ls' := [(0, .int a), (1, .int 0), (2, .int (-1))]) (st' := [.int 0, .int a]) (M' := s_M0) rfl ?_
                  refine s_ek_if2 (T := 14) rfl rfl (fun h9 => ?_) (fun h9 => ?_)
                  · replace h9 : a.toInt < 0 := h9
                    omega
                  · replace h9 : ¬ (a.toInt < 0) := h9
                    replace h9 : 0 ≤ a.toInt := by omega
                    refine s_ek_bk 2 (P := 7) (ls' := [(0, .int a), (1, .int 0), (2, .int (-1))]) (st' := [.int (-1), .int a]) (M' := s_M0) rfl ?_
                    refine s_ek_if2 (T := 14) rfl rfl (fun h10 => ?_) (fun h10 => ?_)
                    · replace h10 : (-1) < a.toInt := h10
                      refine s_ek_bk 1 (P := 15) (ls' := [(0, .int a), (1, .int 0), (2, .int (-1))]) (st' := [.int 0]) (M' := s_M0) rfl ?_
                      refine s_ek_ret (o := some (.int 0)) (fun _ => rfl) ?_
                      show s_Ek (s_rows 3 L xs) 1298 s_e201.1 11 [(0, .ref 151), (1, .int a)] [.int 0] s_M0 _
                      refine s_ek_ret (o := some (.int 0)) (fun _ => rfl) ?_
                      show s_Ek (s_rows 3 L xs) 1299 s_e229.1 78 [(0, .ref 151), (1, .int a), (2, .int b)] [.int 0] s_M0 _
                      refine s_ek_bk 2 (P := 83) (ls' := [(0, .ref 151), (1, .int a), (2, .int b)]) (st' := [.int (-2000000000)]) (M' := s_M0) rfl ?_
                      refine s_ek_ret (o := some (.int (-2000000000))) (fun _ => rfl) ?_
                      exact rfl
                    · replace h10 : ¬ ((-1) < a.toInt) := h10
                      replace h10 : a.toInt ≤ (-1) := by omega
                      omega
            · replace h6 : ¬ (b.toInt < 20) := h6
              replace h6 : 20 ≤ b.toInt := by omega
              omega
          · replace h5 : ¬ (¬ b.toInt = 10) := h5
            replace h5 : b.toInt = 10 := by omega
            omega
        · replace h4 : ¬ (0 ≤ a.toInt) := h4
          replace h4 : a.toInt < 0 := by omega
          omega
set_option maxHeartbeats 20000000 in
set_option maxRecDepth 100000 in
theorem s_op_clash (L : Nat) (xs : Nat → Int32) (a : Int32) (b : Int32) : s_Ek (s_rows 3 L xs) 1299 s_e147.1 0 (lv_args 0 [.ref 0, .int a, .int b]) [] s_M0 (fun v M1 => ∃ r : Int32, v = some (.int r) ∧ s_Ek (s_rows 3 L xs) 1299 s_e243.1 0 (lv_args 0 [.ref 151, .int a, .int b]) [] M1 (fun w _ => w = some (.int r))) := by
  show s_Ek (s_rows 3 L xs) 1299 s_e147.1 0 [(0, .ref 0), (1, .int a), (2, .int b)] [] s_M0 _
  refine s_ek_bk 1 (P := 1) (ls' := [(0, .ref 0), (1, .int a), (2, .int b)]) (st' := [.int a]) (M' := s_M0) rfl ?_
  refine s_ek_if1 (T := 17) rfl rfl (fun h1 => ?_) (fun h1 => ?_)
  · replace h1 : a.toInt < 0 := h1
    refine s_ek_bk 1 (P := 18) (ls' := [(0, .ref 0), (1, .int a), (2, .int b)]) (st' := [.int (-1)]) (M' := s_M0) rfl ?_
    refine s_ek_ret (o := some (.int (-1))) (fun _ => rfl) ?_
    refine ⟨(-1), rfl, ?_⟩
    show s_Ek (s_rows 3 L xs) 1299 s_e243.1 0 [(0, .ref 151), (1, .int a), (2, .int b)] [] s_M0 _
    refine s_ek_bk 1 (P := 1) (ls' := [(0, .ref 151), (1, .int a), (2, .int b)]) (st' := [.int a]) (M' := s_M0) rfl ?_
    refine s_ek_if1 (T := 68) rfl rfl (fun h2 => ?_) (fun h2 => ?_)
    · replace h2 : a.toInt < 0 := h2
      refine s_ek_bk 1 (P := 69) (ls' := [(0, .ref 151), (1, .int a), (2, .int b)]) (st' := [.int (-1)]) (M' := s_M0) rfl ?_
      refine s_ek_ret (o := some (.int (-1))) (fun _ => rfl) ?_
      exact rfl
    · replace h2 : ¬ (a.toInt < 0) := h2
      replace h2 : 0 ≤ a.toInt := by omega
      omega
  · replace h1 : ¬ (a.toInt < 0) := h1
    replace h1 : 0 ≤ a.toInt := by omega
    refine s_ek_bk 2 (P := 7) (ls' := [(0, .ref 0), (1, .int a), (2, .int b)]) (st' := [.int 99, .int a]) (M' := s_M0) rfl ?_
    refine s_ek_if2 (T := 17) rfl rfl (fun h2 => ?_) (fun h2 => ?_)
    · replace h2 : 99 < a.toInt := h2
      refine s_ek_bk 1 (P := 18) (ls' := [(0, .ref 0), (1, .int a), (2, .int b)]) (st' := [.int (-1)]) (M' := s_M0) rfl ?_
      refine s_ek_ret (o := some (.int (-1))) (fun _ => rfl) ?_
      refine ⟨(-1), rfl, ?_⟩
      show s_Ek (s_rows 3 L xs) 1299 s_e243.1 0 [(0, .ref 151), (1, .int a), (2, .int b)] [] s_M0 _
      refine s_ek_bk 1 (P := 1) (ls' := [(0, .ref 151), (1, .int a), (2, .int b)]) (st' := [.int a]) (M' := s_M0) rfl ?_
      refine s_ek_if1 (T := 68) rfl rfl (fun h3 => ?_) (fun h3 => ?_)
      · replace h3 : a.toInt < 0 := h3
        omega
      · replace h3 : ¬ (a.toInt < 0) := h3
        replace h3 : 0 ≤ a.toInt := by omega
        refine s_ek_bk 4 (P := 9) (ls' := [(0, .ref 151), (1, .int a), (2, .int b)]) (st' := [.int (a / 10), .ref 151]) (M' := s_M0) rfl ?_
        refine s_ek_call (ν := s_e201.1) (P := 12) (as := [.ref 151, .int (a / 10)]) (r := []) (fun _ => rfl) rfl ?_
        show s_Ek (s_rows 3 L xs) 1298 s_e201.1 0 [(0, .ref 151), (1, .int (a / 10))] [] s_M0 _
        refine s_ek_bk 6 (P := 8) (ls' := [(0, .ref 151), (1, .int (a / 10))]) (st' := [.int (-1), .int 0, .int (a / 10)]) (M' := s_M0) rfl ?_
        refine s_ek_call (ν := s_e181.1) (P := 11) (as := [.int (a / 10), .int 0, .int (-1)]) (r := []) (fun _ => rfl) rfl ?_
        show s_Ek (s_rows 3 L xs) 1297 s_e181.1 0 [(0, .int (a / 10)), (1, .int 0), (2, .int (-1))] [] s_M0 _
        refine s_ek_bk 2 (P := 2) (ls' := [(0, .int (a / 10)), (1, .int 0), (2, .int (-1))]) (st' := [.int 0, .int (a / 10)]) (M' := s_M0) rfl ?_
        refine s_ek_if2 (T := 14) rfl rfl (fun h4 => ?_) (fun h4 => ?_)
        · replace h4 : (a / 10).toInt < 0 := h4
          refine s_ek_bk 1 (P := 15) (ls' := [(0, .int (a / 10)), (1, .int 0), (2, .int (-1))]) (st' := [.int 0]) (M' := s_M0) rfl ?_
          refine s_ek_ret (o := some (.int 0)) (fun _ => rfl) ?_
          show s_Ek (s_rows 3 L xs) 1298 s_e201.1 11 [(0, .ref 151), (1, .int (a / 10))] [.int 0] s_M0 _
          refine s_ek_ret (o := some (.int 0)) (fun _ => rfl) ?_
          show s_Ek (s_rows 3 L xs) 1299 s_e243.1 12 [(0, .ref 151), (1, .int a), (2, .int b)] [.int 0] s_M0 _
          refine s_ek_bk 2 (P := 69) (ls' := [(0, .ref 151), (1, .int a), (2, .int b)]) (st' := [.int (-1)]) (M' := s_M0) rfl ?_
          refine s_ek_ret (o := some (.int (-1))) (fun _ => rfl) ?_
          exact rfl
        · replace h4 : ¬ ((a / 10).toInt < 0) := h4
          replace h4 : 0 ≤ (a / 10).toInt := by omega
          refine s_ek_bk 2 (P := 7) (ls' := [(0, .int (a / 10)), (1, .int 0), (2, .int (-1))]) (st' := [.int (-1), .int (a / 10)]) (M' := s_M0) rfl ?_
          refine s_ek_if2 (T := 14) rfl rfl (fun h5 => ?_) (fun h5 => ?_)
          · replace h5 : (-1) < (a / 10).toInt := h5
            refine s_ek_bk 1 (P := 15) (ls' := [(0, .int (a / 10)), (1, .int 0), (2, .int (-1))]) (st' := [.int 0]) (M' := s_M0) rfl ?_
            refine s_ek_ret (o := some (.int 0)) (fun _ => rfl) ?_
            show s_Ek (s_rows 3 L xs) 1298 s_e201.1 11 [(0, .ref 151), (1, .int (a / 10))] [.int 0] s_M0 _
            refine s_ek_ret (o := some (.int 0)) (fun _ => rfl) ?_
            show s_Ek (s_rows 3 L xs) 1299 s_e243.1 12 [(0, .ref 151), (1, .int a), (2, .int b)] [.int 0] s_M0 _
            refine s_ek_bk 2 (P := 69) (ls' := [(0, .ref 151), (1, .int a), (2, .int b)]) (st' := [.int (-1)]) (M' := s_M0) rfl ?_
            refine s_ek_ret (o := some (.int (-1))) (fun _ => rfl) ?_
            exact rfl
          · replace h5 : ¬ ((-1) < (a / 10).toInt) := h5
            replace h5 : (a / 10).toInt ≤ (-1) := by omega
            omega
    · replace h2 : ¬ (99 < a.toInt) := h2
      replace h2 : a.toInt ≤ 99 := by omega
      refine s_ek_bk 1 (P := 11) (ls' := [(0, .ref 0), (1, .int a), (2, .int b)]) (st' := [.int b]) (M' := s_M0) rfl ?_
      refine s_ek_call (ν := s_e174.1) (P := 14) (as := [.int b]) (r := []) (fun _ => rfl) rfl ?_
      show s_Ek (s_rows 3 L xs) 1298 s_e174.1 0 [(0, .int b)] [] s_M0 _
      refine s_ek_bk 1 (P := 1) (ls' := [(0, .int b)]) (st' := [.int b]) (M' := s_M0) rfl ?_
      refine s_ek_if1 (T := 9) rfl rfl (fun h3 => ?_) (fun h3 => ?_)
      · replace h3 : b.toInt = 0 := h3
        refine s_ek_bk 2 (P := 14) (ls' := [(0, .int b)]) (st' := [.int 1]) (M' := s_M0) rfl ?_
        refine s_ek_ret (o := some (.int 1)) (fun _ => rfl) ?_
        show s_Ek (s_rows 3 L xs) 1299 s_e147.1 14 [(0, .ref 0), (1, .int a), (2, .int b)] [.int 1] s_M0 _
        refine s_ek_bk 11 (P := 33) (ls' := [(4, .int (a - a / 10 * 10)), (3, .int (a / 10)), (0, .ref 0), (1, .int a), (2, .int b)]) (st' := [.int (a - a / 10 * 10), .int (a / 10)]) (M' := s_M0) rfl ?_
        refine s_ek_if2 (T := 59) rfl rfl (fun h4 => ?_) (fun h4 => ?_)
        · replace h4 : (a / 10).toInt = (a - a / 10 * 10).toInt := h4
          refine s_ek_bk 1 (P := 60) (ls' := [(4, .int (a - a / 10 * 10)), (3, .int (a / 10)), (0, .ref 0), (1, .int a), (2, .int b)]) (st' := [.int (-1)]) (M' := s_M0) rfl ?_
          refine s_ek_ret (o := some (.int (-1))) (fun _ => rfl) ?_
          refine ⟨(-1), rfl, ?_⟩
          show s_Ek (s_rows 3 L xs) 1299 s_e243.1 0 [(0, .ref 151), (1, .int a), (2, .int b)] [] s_M0 _
          refine s_ek_bk 1 (P := 1) (ls' := [(0, .ref 151), (1, .int a), (2, .int b)]) (st' := [.int a]) (M' := s_M0) rfl ?_
          refine s_ek_if1 (T := 68) rfl rfl (fun h5 => ?_) (fun h5 => ?_)
          · replace h5 : a.toInt < 0 := h5
            omega
          · replace h5 : ¬ (a.toInt < 0) := h5
            replace h5 : 0 ≤ a.toInt := by omega
            refine s_ek_bk 4 (P := 9) (ls' := [(0, .ref 151), (1, .int a), (2, .int b)]) (st' := [.int (a / 10), .ref 151]) (M' := s_M0) rfl ?_
            refine s_ek_call (ν := s_e201.1) (P := 12) (as := [.ref 151, .int (a / 10)]) (r := []) (fun _ => rfl) rfl ?_
            show s_Ek (s_rows 3 L xs) 1298 s_e201.1 0 [(0, .ref 151), (1, .int (a / 10))] [] s_M0 _
            refine s_ek_bk 6 (P := 8) (ls' := [(0, .ref 151), (1, .int (a / 10))]) (st' := [.int (-1), .int 0, .int (a / 10)]) (M' := s_M0) rfl ?_
            refine s_ek_call (ν := s_e181.1) (P := 11) (as := [.int (a / 10), .int 0, .int (-1)]) (r := []) (fun _ => rfl) rfl ?_
            show s_Ek (s_rows 3 L xs) 1297 s_e181.1 0 [(0, .int (a / 10)), (1, .int 0), (2, .int (-1))] [] s_M0 _
            refine s_ek_bk 2 (P := 2) (ls' := [(0, .int (a / 10)), (1, .int 0), (2, .int (-1))]) (st' := [.int 0, .int (a / 10)]) (M' := s_M0) rfl ?_
            refine s_ek_if2 (T := 14) rfl rfl (fun h6 => ?_) (fun h6 => ?_)
            · replace h6 : (a / 10).toInt < 0 := h6
              refine s_ek_bk 1 (P := 15) (ls' := [(0, .int (a / 10)), (1, .int 0), (2, .int (-1))]) (st' := [.int 0]) (M' := s_M0) rfl ?_
              refine s_ek_ret (o := some (.int 0)) (fun _ => rfl) ?_
              show s_Ek (s_rows 3 L xs) 1298 s_e201.1 11 [(0, .ref 151), (1, .int (a / 10))] [.int 0] s_M0 _
              refine s_ek_ret (o := some (.int 0)) (fun _ => rfl) ?_
              show s_Ek (s_rows 3 L xs) 1299 s_e243.1 12 [(0, .ref 151), (1, .int a), (2, .int b)] [.int 0] s_M0 _
              refine s_ek_bk 2 (P := 69) (ls' := [(0, .ref 151), (1, .int a), (2, .int b)]) (st' := [.int (-1)]) (M' := s_M0) rfl ?_
              refine s_ek_ret (o := some (.int (-1))) (fun _ => rfl) ?_
              exact rfl
            · replace h6 : ¬ ((a / 10).toInt < 0) := h6
              replace h6 : 0 ≤ (a / 10).toInt := by omega
              refine s_ek_bk 2 (P := 7) (ls' := [(0, .int (a / 10)), (1, .int 0), (2, .int (-1))]) (st' := [.int (-1), .int (a / 10)]) (M' := s_M0) rfl ?_
              refine s_ek_if2 (T := 14) rfl rfl (fun h7 => ?_) (fun h7 => ?_)
              · replace h7 : (-1) < (a / 10).toInt := h7
                refine s_ek_bk 1 (P := 15) (ls' := [(0, .int (a / 10)), (1, .int 0), (2, .int (-1))]) (st' := [.int 0]) (M' := s_M0) rfl ?_
                refine s_ek_ret (o := some (.int 0)) (fun _ => rfl) ?_
                show s_Ek (s_rows 3 L xs) 1298 s_e201.1 11 [(0, .ref 151), (1, .int (a / 10))] [.int 0] s_M0 _
                refine s_ek_ret (o := some (.int 0)) (fun _ => rfl) ?_
                show s_Ek (s_rows 3 L xs) 1299 s_e243.1 12 [(0, .ref 151), (1, .int a), (2, .int b)] [.int 0] s_M0 _
                refine s_ek_bk 2 (P := 69) (ls' := [(0, .ref 151), (1, .int a), (2, .int b)]) (st' := [.int (-1)]) (M' := s_M0) rfl ?_
                refine s_ek_ret (o := some (.int (-1))) (fun _ => rfl) ?_
                exact rfl
              · replace h7 : ¬ ((-1) < (a / 10).toInt) := h7
                replace h7 : (a / 10).toInt ≤ (-1) := by omega
                omega
        · replace h4 : ¬ ((a / 10).toInt = (a - a / 10 * 10).toInt) := h4
          replace h4 : ¬ (a / 10).toInt = (a - a / 10 * 10).toInt := by omega
          refine s_ek_bk 3 (P := 41) (ls' := [(4, .int (a - a / 10 * 10)), (3, .int (a / 10)), (0, .ref 0), (1, .int a), (2, .int b)]) (st' := [.int (a / 10), .ref 8]) (M' := s_M0) rfl ?_
          refine s_ek_call (ν := s_e46.1) (P := 44) (as := [.ref 8, .int (a / 10)]) (r := []) (fun _ => rfl) rfl ?_
          show s_Ek (s_rows 3 L xs) 1298 s_e46.1 0 [(0, .ref 8), (1, .int (a / 10))] [] s_M0 _
          refine s_ek_bk 2 (P := 2) (ls' := [(0, .ref 8), (1, .int (a / 10))]) (st' := [.int (a / 10), .ref 8]) (M' := s_M0) rfl ?_
          refine s_ek_call (ν := s_e40.1) (P := 5) (as := [.ref 8, .int (a / 10)]) (r := []) (fun _ => rfl) rfl ?_
          show s_Ek (s_rows 3 L xs) 1297 s_e40.1 0 [(0, .ref 8), (1, .int (a / 10))] [] s_M0 _
          refine s_ek_bk 1 (P := 1) (ls' := [(0, .ref 8), (1, .int (a / 10))]) (st' := [.int (a / 10)]) (M' := s_M0) rfl ?_
          refine s_ek_if1 (T := 16) rfl rfl (fun h5 => ?_) (fun h5 => ?_)
          · replace h5 : (a / 10).toInt < 0 := h5
            refine s_ek_bk 1 (P := 17) (ls' := [(0, .ref 8), (1, .int (a / 10))]) (st' := [.int 0]) (M' := s_M0) rfl ?_
            refine s_ek_ret (o := some (.int 0)) (fun _ => rfl) ?_
            show s_Ek (s_rows 3 L xs) 1298 s_e46.1 5 [(0, .ref 8), (1, .int (a / 10))] [.int 0] s_M0 _
            refine s_ek_bk 2 (P := 28) (ls' := [(0, .ref 8), (1, .int (a / 10))]) (st' := [.int 0]) (M' := s_M0) rfl ?_
            refine s_ek_ret (o := some (.int 0)) (fun _ => rfl) ?_
            show s_Ek (s_rows 3 L xs) 1299 s_e147.1 44 [(4, .int (a - a / 10 * 10)), (3, .int (a / 10)), (0, .ref 0), (1, .int a), (2, .int b)] [.int 0] s_M0 _
            refine s_ek_bk 2 (P := 60) (ls' := [(4, .int (a - a / 10 * 10)), (3, .int (a / 10)), (0, .ref 0), (1, .int a), (2, .int b)]) (st' := [.int (-1)]) (M' := s_M0) rfl ?_
            refine s_ek_ret (o := some (.int (-1))) (fun _ => rfl) ?_
            refine ⟨(-1), rfl, ?_⟩
            show s_Ek (s_rows 3 L xs) 1299 s_e243.1 0 [(0, .ref 151), (1, .int a), (2, .int b)] [] s_M0 _
            refine s_ek_bk 1 (P := 1) (ls' := [(0, .ref 151), (1, .int a), (2, .int b)]) (st' := [.int a]) (M' := s_M0) rfl ?_
            refine s_ek_if1 (T := 68) rfl rfl (fun h6 => ?_) (fun h6 => ?_)
            · replace h6 : a.toInt < 0 := h6
              omega
            · replace h6 : ¬ (a.toInt < 0) := h6
              replace h6 : 0 ≤ a.toInt := by omega
              refine s_ek_bk 4 (P := 9) (ls' := [(0, .ref 151), (1, .int a), (2, .int b)]) (st' := [.int (a / 10), .ref 151]) (M' := s_M0) rfl ?_
              refine s_ek_call (ν := s_e201.1) (P := 12) (as := [.ref 151, .int (a / 10)]) (r := []) (fun _ => rfl) rfl ?_
              show s_Ek (s_rows 3 L xs) 1298 s_e201.1 0 [(0, .ref 151), (1, .int (a / 10))] [] s_M0 _
              refine s_ek_bk 6 (P := 8) (ls' := [(0, .ref 151), (1, .int (a / 10))]) (st' := [.int (-1), .int 0, .int (a / 10)]) (M' := s_M0) rfl ?_
              refine s_ek_call (ν := s_e181.1) (P := 11) (as := [.int (a / 10), .int 0, .int (-1)]) (r := []) (fun _ => rfl) rfl ?_
              show s_Ek (s_rows 3 L xs) 1297 s_e181.1 0 [(0, .int (a / 10)), (1, .int 0), (2, .int (-1))] [] s_M0 _
              refine s_ek_bk 2 (P := 2) (ls' := [(0, .int (a / 10)), (1, .int 0), (2, .int (-1))]) (st' := [.int 0, .int (a / 10)]) (M' := s_M0) rfl ?_
              refine s_ek_if2 (T := 14) rfl rfl (fun h7 => ?_) (fun h7 => ?_)
              · replace h7 : (a / 10).toInt < 0 := h7
                refine s_ek_bk 1 (P := 15) (ls' := [(0, .int (a / 10)), (1, .int 0), (2, .int (-1))]) (st' := [.int 0]) (M' := s_M0) rfl ?_
                refine s_ek_ret (o := some (.int 0)) (fun _ => rfl) ?_
                show s_Ek (s_rows 3 L xs) 1298 s_e201.1 11 [(0, .ref 151), (1, .int (a / 10))] [.int 0] s_M0 _
                refine s_ek_ret (o := some (.int 0)) (fun _ => rfl) ?_
                show s_Ek (s_rows 3 L xs) 1299 s_e243.1 12 [(0, .ref 151), (1, .int a), (2, .int b)] [.int 0] s_M0 _
                refine s_ek_bk 2 (P := 69) (ls' := [(0, .ref 151), (1, .int a), (2, .int b)]) (st' := [.int (-1)]) (M' := s_M0) rfl ?_
                refine s_ek_ret (o := some (.int (-1))) (fun _ => rfl) ?_
                exact rfl
              · replace h7 : ¬ ((a / 10).toInt < 0) := h7
                replace h7 : 0 ≤ (a / 10).toInt := by omega
                omega
          · replace h5 : ¬ ((a / 10).toInt < 0) := h5
            replace h5 : 0 ≤ (a / 10).toInt := by omega
            refine s_ek_bk 3 (P := 9) (ls' := [(0, .ref 8), (1, .int (a / 10))]) (st' := [.int 0, .int (a / 10)]) (M' := s_M0) rfl ?_
            refine s_ek_if2 (T := 16) rfl rfl (fun h6 => ?_) (fun h6 => ?_)
            · replace h6 : 0 ≤ (a / 10).toInt := h6
              refine s_ek_bk 1 (P := 17) (ls' := [(0, .ref 8), (1, .int (a / 10))]) (st' := [.int 0]) (M' := s_M0) rfl ?_
              refine s_ek_ret (o := some (.int 0)) (fun _ => rfl) ?_
              show s_Ek (s_rows 3 L xs) 1298 s_e46.1 5 [(0, .ref 8), (1, .int (a / 10))] [.int 0] s_M0 _
              refine s_ek_bk 2 (P := 28) (ls' := [(0, .ref 8), (1, .int (a / 10))]) (st' := [.int 0]) (M' := s_M0) rfl ?_
              refine s_ek_ret (o := some (.int 0)) (fun _ => rfl) ?_
              show s_Ek (s_rows 3 L xs) 1299 s_e147.1 44 [(4, .int (a - a / 10 * 10)), (3, .int (a / 10)), (0, .ref 0), (1, .int a), (2, .int b)] [.int 0] s_M0 _
              refine s_ek_bk 2 (P := 60) (ls' := [(4, .int (a - a / 10 * 10)), (3, .int (a / 10)), (0, .ref 0), (1, .int a), (2, .int b)]) (st' := [.int (-1)]) (M' := s_M0) rfl ?_
              refine s_ek_ret (o := some (.int (-1))) (fun _ => rfl) ?_
              refine ⟨(-1), rfl, ?_⟩
              show s_Ek (s_rows 3 L xs) 1299 s_e243.1 0 [(0, .ref 151), (1, .int a), (2, .int b)] [] s_M0 _
              refine s_ek_bk 1 (P := 1) (ls' := [(0, .ref 151), (1, .int a), (2, .int b)]) (st' := [.int a]) (M' := s_M0) rfl ?_
              refine s_ek_if1 (T := 68) rfl rfl (fun h7 => ?_) (fun h7 => ?_)
              · replace h7 : a.toInt < 0 := h7
                omega
              · replace h7 : ¬ (a.toInt < 0) := h7
                replace h7 : 0 ≤ a.toInt := by omega
                refine s_ek_bk 4 (P := 9) (ls' := [(0, .ref 151), (1, .int a), (2, .int b)]) (st' := [.int (a / 10), .ref 151]) (M' := s_M0) rfl ?_
                refine s_ek_call (ν := s_e201.1) (P := 12) (as := [.ref 151, .int (a / 10)]) (r := []) (fun _ => rfl) rfl ?_
                show s_Ek (s_rows 3 L xs) 1298 s_e201.1 0 [(0, .ref 151), (1, .int (a / 10))] [] s_M0 _
                refine s_ek_bk 6 (P := 8) (ls' := [(0, .ref 151), (1, .int (a / 10))]) (st' := [.int (-1), .int 0, .int (a / 10)]) (M' := s_M0) rfl ?_
                refine s_ek_call (ν := s_e181.1) (P := 11) (as := [.int (a / 10), .int 0, .int (-1)]) (r := []) (fun _ => rfl) rfl ?_
                show s_Ek (s_rows 3 L xs) 1297 s_e181.1 0 [(0, .int (a / 10)), (1, .int 0), (2, .int (-1))] [] s_M0 _
                refine s_ek_bk 2 (P := 2) (ls' := [(0, .int (a / 10)), (1, .int 0), (2, .int (-1))]) (st' := [.int 0, .int (a / 10)]) (M' := s_M0) rfl ?_
                refine s_ek_if2 (T := 14) rfl rfl (fun h8 => ?_) (fun h8 => ?_)
                · replace h8 : (a / 10).toInt < 0 := h8
                  omega
                · replace h8 : ¬ ((a / 10).toInt < 0) := h8
                  replace h8 : 0 ≤ (a / 10).toInt := by omega
                  refine s_ek_bk 2 (P := 7) (ls' := [(0, .int (a / 10)), (1, .int 0), (2, .int (-1))]) (st' := [.int (-1), .int (a / 10)]) (M' := s_M0) rfl ?_
                  refine s_ek_if2 (T := 14) rfl rfl (fun h9 => ?_) (fun h9 => ?_)
                  · replace h9 : (-1) < (a / 10).toInt := h9
                    refine s_ek_bk 1 (P := 15) (ls' := [(0, .int (a / 10)), (1, .int 0), (2, .int (-1))]) (st' := [.int 0]) (M' := s_M0) rfl ?_
                    refine s_ek_ret (o := some (.int 0)) (fun _ => rfl) ?_
                    show s_Ek (s_rows 3 L xs) 1298 s_e201.1 11 [(0, .ref 151), (1, .int (a / 10))] [.int 0] s_M0 _
                    refine s_ek_ret (o := some (.int 0)) (fun _ => rfl) ?_
                    show s_Ek (s_rows 3 L xs) 1299 s_e243.1 12 [(0, .ref 151), (1, .int a), (2, .int b)] [.int 0] s_M0 _
                    refine s_ek_bk 2 (P := 69) (ls' := [(0, .ref 151), (1, .int a), (2, .int b)]) (st' := [.int (-1)]) (M' := s_M0) rfl ?_
                    refine s_ek_ret (o := some (.int (-1))) (fun _ => rfl) ?_
                    exact rfl
                  · replace h9 : ¬ ((-1) < (a / 10).toInt) := h9
                    replace h9 : (a / 10).toInt ≤ (-1) := by omega
                    omega
            · replace h6 : ¬ (0 ≤ (a / 10).toInt) := h6
              replace h6 : (a / 10).toInt < 0 := by omega
              omega
      · replace h3 : ¬ (b.toInt = 0) := h3
        replace h3 : ¬ b.toInt = 0 := by omega
        refine s_ek_bk 2 (P := 6) (ls' := [(0, .int b)]) (st' := [.int 1, .int b]) (M' := s_M0) rfl ?_
        refine s_ek_if2 (T := 13) rfl rfl (fun h4 => ?_) (fun h4 => ?_)
        · replace h4 : ¬ b.toInt = 1 := h4
          refine s_ek_bk 1 (P := 14) (ls' := [(0, .int b)]) (st' := [.int 0]) (M' := s_M0) rfl ?_
          refine s_ek_ret (o := some (.int 0)) (fun _ => rfl) ?_
          show s_Ek (s_rows 3 L xs) 1299 s_e147.1 14 [(0, .ref 0), (1, .int a), (2, .int b)] [.int 0] s_M0 _
          refine s_ek_bk 2 (P := 18) (ls' := [(0, .ref 0), (1, .int a), (2, .int b)]) (st' := [.int (-1)]) (M' := s_M0) rfl ?_
          refine s_ek_ret (o := some (.int (-1))) (fun _ => rfl) ?_
          refine ⟨(-1), rfl, ?_⟩
          show s_Ek (s_rows 3 L xs) 1299 s_e243.1 0 [(0, .ref 151), (1, .int a), (2, .int b)] [] s_M0 _
          refine s_ek_bk 1 (P := 1) (ls' := [(0, .ref 151), (1, .int a), (2, .int b)]) (st' := [.int a]) (M' := s_M0) rfl ?_
          refine s_ek_if1 (T := 68) rfl rfl (fun h5 => ?_) (fun h5 => ?_)
          · replace h5 : a.toInt < 0 := h5
            omega
          · replace h5 : ¬ (a.toInt < 0) := h5
            replace h5 : 0 ≤ a.toInt := by omega
            refine s_ek_bk 4 (P := 9) (ls' := [(0, .ref 151), (1, .int a), (2, .int b)]) (st' := [.int (a / 10), .ref 151]) (M' := s_M0) rfl ?_
            refine s_ek_call (ν := s_e201.1) (P := 12) (as := [.ref 151, .int (a / 10)]) (r := []) (fun _ => rfl) rfl ?_
            show s_Ek (s_rows 3 L xs) 1298 s_e201.1 0 [(0, .ref 151), (1, .int (a / 10))] [] s_M0 _
            refine s_ek_bk 6 (P := 8) (ls' := [(0, .ref 151), (1, .int (a / 10))]) (st' := [.int (-1), .int 0, .int (a / 10)]) (M' := s_M0) rfl ?_
            refine s_ek_call (ν := s_e181.1) (P := 11) (as := [.int (a / 10), .int 0, .int (-1)]) (r := []) (fun _ => rfl) rfl ?_
            show s_Ek (s_rows 3 L xs) 1297 s_e181.1 0 [(0, .int (a / 10)), (1, .int 0), (2, .int (-1))] [] s_M0 _
            refine s_ek_bk 2 (P := 2) (ls' := [(0, .int (a / 10)), (1, .int 0), (2, .int (-1))]) (st' := [.int 0, .int (a / 10)]) (M' := s_M0) rfl ?_
            refine s_ek_if2 (T := 14) rfl rfl (fun h6 => ?_) (fun h6 => ?_)
            · replace h6 : (a / 10).toInt < 0 := h6
              refine s_ek_bk 1 (P := 15) (ls' := [(0, .int (a / 10)), (1, .int 0), (2, .int (-1))]) (st' := [.int 0]) (M' := s_M0) rfl ?_
              refine s_ek_ret (o := some (.int 0)) (fun _ => rfl) ?_
              show s_Ek (s_rows 3 L xs) 1298 s_e201.1 11 [(0, .ref 151), (1, .int (a / 10))] [.int 0] s_M0 _
              refine s_ek_ret (o := some (.int 0)) (fun _ => rfl) ?_
              show s_Ek (s_rows 3 L xs) 1299 s_e243.1 12 [(0, .ref 151), (1, .int a), (2, .int b)] [.int 0] s_M0 _
              refine s_ek_bk 2 (P := 69) (ls' := [(0, .ref 151), (1, .int a), (2, .int b)]) (st' := [.int (-1)]) (M' := s_M0) rfl ?_
              refine s_ek_ret (o := some (.int (-1))) (fun _ => rfl) ?_
              exact rfl
            · replace h6 : ¬ ((a / 10).toInt < 0) := h6
              replace h6 : 0 ≤ (a / 10).toInt := by omega
              refine s_ek_bk 2 (P := 7) (ls' := [(0, .int (a / 10)), (1, .int 0), (2, .int (-1))]) (st' := [.int (-1), .int (a / 10)]) (M' := s_M0) rfl ?_
              refine s_ek_if2 (T := 14) rfl rfl (fun h7 => ?_) (fun h7 => ?_)
              · replace h7 : (-1) < (a / 10).toInt := h7
                refine s_ek_bk 1 (P := 15) (ls' := [(0, .int (a / 10)), (1, .int 0), (2, .int (-1))]) (st' := [.int 0]) (M' := s_M0) rfl ?_
                refine s_ek_ret (o := some (.int 0)) (fun _ => rfl) ?_
                show s_Ek (s_rows 3 L xs) 1298 s_e201.1 11 [(0, .ref 151), (1, .int (a / 10))] [.int 0] s_M0 _
                refine s_ek_ret (o := some (.int 0)) (fun _ => rfl) ?_
                show s_Ek (s_rows 3 L xs) 1299 s_e243.1 12 [(0, .ref 151), (1, .int a), (2, .int b)] [.int 0] s_M0 _
                refine s_ek_bk 2 (P := 69) (ls' := [(0, .ref 151), (1, .int a), (2, .int b)]) (st' := [.int (-1)]) (M' := s_M0) rfl ?_
                refine s_ek_ret (o := some (.int (-1))) (fun _ => rfl) ?_
                exact rfl
              · replace h7 : ¬ ((-1) < (a / 10).toInt) := h7
                replace h7 : (a / 10).toInt ≤ (-1) := by omega
                omega
        · replace h4 : ¬ (¬ b.toInt = 1) := h4
          replace h4 : b.toInt = 1 := by omega
          refine s_ek_bk 2 (P := 14) (ls' := [(0, .int b)]) (st' := [.int 1]) (M' := s_M0) rfl ?_
          refine s_ek_ret (o := some (.int 1)) (fun _ => rfl) ?_
          show s_Ek (s_rows 3 L xs) 1299 s_e147.1 14 [(0, .ref 0), (1, .int a), (2, .int b)] [.int 1] s_M0 _
          refine s_ek_bk 11 (P := 33) (ls' := [(4, .int (a - a / 10 * 10)), (3, .int (a / 10)), (0, .ref 0), (1, .int a), (2, .int b)]) (st' := [.int (a - a / 10 * 10), .int (a / 10)]) (M' := s_M0) rfl ?_
          refine s_ek_if2 (T := 59) rfl rfl (fun h5 => ?_) (fun h5 => ?_)
          · replace h5 : (a / 10).toInt = (a - a / 10 * 10).toInt := h5
            refine s_ek_bk 1 (P := 60) (ls' := [(4, .int (a - a / 10 * 10)), (3, .int (a / 10)), (0, .ref 0), (1, .int a), (2, .int b)]) (st' := [.int (-1)]) (M' := s_M0) rfl ?_
            refine s_ek_ret (o := some (.int (-1))) (fun _ => rfl) ?_
            refine ⟨(-1), rfl, ?_⟩
            show s_Ek (s_rows 3 L xs) 1299 s_e243.1 0 [(0, .ref 151), (1, .int a), (2, .int b)] [] s_M0 _
            refine s_ek_bk 1 (P := 1) (ls' := [(0, .ref 151), (1, .int a), (2, .int b)]) (st' := [.int a]) (M' := s_M0) rfl ?_
            refine s_ek_if1 (T := 68) rfl rfl (fun h6 => ?_) (fun h6 => ?_)
            · replace h6 : a.toInt < 0 := h6
              omega
            · replace h6 : ¬ (a.toInt < 0) := h6
              replace h6 : 0 ≤ a.toInt := by omega
              refine s_ek_bk 4 (P := 9) (ls' := [(0, .ref 151), (1, .int a), (2, .int b)]) (st' := [.int (a / 10), .ref 151]) (M' := s_M0) rfl ?_
              refine s_ek_call (ν := s_e201.1) (P := 12) (as := [.ref 151, .int (a / 10)]) (r := []) (fun _ => rfl) rfl ?_
              show s_Ek (s_rows 3 L xs) 1298 s_e201.1 0 [(0, .ref 151), (1, .int (a / 10))] [] s_M0 _
              refine s_ek_bk 6 (P := 8) (ls' := [(0, .ref 151), (1, .int (a / 10))]) (st' := [.int (-1), .int 0, .int (a / 10)]) (M' := s_M0) rfl ?_
              refine s_ek_call (ν := s_e181.1) (P := 11) (as := [.int (a / 10), .int 0, .int (-1)]) (r := []) (fun _ => rfl) rfl ?_
              show s_Ek (s_rows 3 L xs) 1297 s_e181.1 0 [(0, .int (a / 10)), (1, .int 0), (2, .int (-1))] [] s_M0 _
              refine s_ek_bk 2 (P := 2) (ls' := [(0, .int (a / 10)), (1, .int 0), (2, .int (-1))]) (st' := [.int 0, .int (a / 10)]) (M' := s_M0) rfl ?_
              refine s_ek_if2 (T := 14) rfl rfl (fun h7 => ?_) (fun h7 => ?_)
              · replace h7 : (a / 10).toInt < 0 := h7
                refine s_ek_bk 1 (P := 15) (ls' := [(0, .int (a / 10)), (1, .int 0), (2, .int (-1))]) (st' := [.int 0]) (M' := s_M0) rfl ?_
                refine s_ek_ret (o := some (.int 0)) (fun _ => rfl) ?_
                show s_Ek (s_rows 3 L xs) 1298 s_e201.1 11 [(0, .ref 151), (1, .int (a / 10))] [.int 0] s_M0 _
                refine s_ek_ret (o := some (.int 0)) (fun _ => rfl) ?_
                show s_Ek (s_rows 3 L xs) 1299 s_e243.1 12 [(0, .ref 151), (1, .int a), (2, .int b)] [.int 0] s_M0 _
                refine s_ek_bk 2 (P := 69) (ls' := [(0, .ref 151), (1, .int a), (2, .int b)]) (st' := [.int (-1)]) (M' := s_M0) rfl ?_
                refine s_ek_ret (o := some (.int (-1))) (fun _ => rfl) ?_
                exact rfl
              · replace h7 : ¬ ((a / 10).toInt < 0) := h7
                replace h7 : 0 ≤ (a / 10).toInt := by omega
                refine s_ek_bk 2 (P := 7) (ls' := [(0, .int (a / 10)), (1, .int 0), (2, .int (-1))]) (st' := [.int (-1), .int (a / 10)]) (M' := s_M0) rfl ?_
                refine s_ek_if2 (T := 14) rfl rfl (fun h8 => ?_) (fun h8 => ?_)
                · replace h8 : (-1) < (a / 10).toInt := h8
                  refine s_ek_bk 1 (P := 15) (ls' := [(0, .int (a / 10)), (1, .int 0), (2, .int (-1))]) (st' := [.int 0]) (M' := s_M0) rfl ?_
                  refine s_ek_ret (o := some (.int 0)) (fun _ => rfl) ?_
                  show s_Ek (s_rows 3 L xs) 1298 s_e201.1 11 [(0, .ref 151), (1, .int (a / 10))] [.int 0] s_M0 _
                  refine s_ek_ret (o := some (.int 0)) (fun _ => rfl) ?_
                  show s_Ek (s_rows 3 L xs) 1299 s_e243.1 12 [(0, .ref 151), (1, .int a), (2, .int b)] [.int 0] s_M0 _
                  refine s_ek_bk 2 (P := 69) (ls' := [(0, .ref 151), (1, .int a), (2, .int b)]) (st' := [.int (-1)]) (M' := s_M0) rfl ?_
                  refine s_ek_ret (o := some (.int (-1))) (fun _ => rfl) ?_
                  exact rfl
                · replace h8 : ¬ ((-1) < (a / 10).toInt) := h8
                  replace h8 : (a / 10).toInt ≤ (-1) := by omega
                  omega
          · replace h5 : ¬ ((a / 10).toInt = (a - a / 10 * 10).toInt) := h5
            replace h5 : ¬ (a / 10).toInt = (a - a / 10 * 10).toInt := by omega
            refine s_ek_bk 3 (P := 41) (ls' := [(4, .int (a - a / 10 * 10)), (3, .int (a / 10)), (0, .ref 0), (1, .int a), (2, .int b)]) (st' := [.int (a / 10), .ref 8]) (M' := s_M0) rfl ?_
            refine s_ek_call (ν := s_e46.1) (P := 44) (as := [.ref 8, .int (a / 10)]) (r := []) (fun _ => rfl) rfl ?_
            show s_Ek (s_rows 3 L xs) 1298 s_e46.1 0 [(0, .ref 8), (1, .int (a / 10))] [] s_M0 _
            refine s_ek_bk 2 (P := 2) (ls' := [(0, .ref 8), (1, .int (a / 10))]) (st' := [.int (a / 10), .ref 8]) (M' := s_M0) rfl ?_
            refine s_ek_call (ν := s_e40.1) (P := 5) (as := [.ref 8, .int (a / 10)]) (r := []) (fun _ => rfl) rfl ?_
            show s_Ek (s_rows 3 L xs) 1297 s_e40.1 0 [(0, .ref 8), (1, .int (a / 10))] [] s_M0 _
            refine s_ek_bk 1 (P := 1) (ls' := [(0, .ref 8), (1, .int (a / 10))]) (st' := [.int (a / 10)]) (M' := s_M0) rfl ?_
            refine s_ek_if1 (T := 16) rfl rfl (fun h6 => ?_) (fun h6 => ?_)
            · replace h6 : (a / 10).toInt < 0 := h6
              refine s_ek_bk 1 (P := 17) (ls' := [(0, .ref 8), (1, .int (a / 10))]) (st' := [.int 0]) (M' := s_M0) rfl ?_
              refine s_ek_ret (o := some (.int 0)) (fun _ => rfl) ?_
              show s_Ek (s_rows 3 L xs) 1298 s_e46.1 5 [(0, .ref 8), (1, .int (a / 10))] [.int 0] s_M0 _
              refine s_ek_bk 2 (P := 28) (ls' := [(0, .ref 8), (1, .int (a / 10))]) (st' := [.int 0]) (M' := s_M0) rfl ?_
              refine s_ek_ret (o := some (.int 0)) (fun _ => rfl) ?_
              show s_Ek (s_rows 3 L xs) 1299 s_e147.1 44 [(4, .int (a - a / 10 * 10)), (3, .int (a / 10)), (0, .ref 0), (1, .int a), (2, .int b)] [.int 0] s_M0 _
              refine s_ek_bk 2 (P := 60) (ls' := [(4, .int (a - a / 10 * 10)), (3, .int (a / 10)), (0, .ref 0), (1, .int a), (2, .int b)]) (st' := [.int (-1)]) (M' := s_M0) rfl ?_
              refine s_ek_ret (o := some (.int (-1))) (fun _ => rfl) ?_
              refine ⟨(-1), rfl, ?_⟩
              show s_Ek (s_rows 3 L xs) 1299 s_e243.1 0 [(0, .ref 151), (1, .int a), (2, .int b)] [] s_M0 _
              refine s_ek_bk 1 (P := 1) (ls' := [(0, .ref 151), (1, .int a), (2, .int b)]) (st' := [.int a]) (M' := s_M0) rfl ?_
              refine s_ek_if1 (T := 68) rfl rfl (fun h7 => ?_) (fun h7 => ?_)
              · replace h7 : a.toInt < 0 := h7
                omega
              · replace h7 : ¬ (a.toInt < 0) := h7
                replace h7 : 0 ≤ a.toInt := by omega
                refine s_ek_bk 4 (P := 9) (ls' := [(0, .ref 151), (1, .int a), (2, .int b)]) (st' := [.int (a / 10), .ref 151]) (M' := s_M0) rfl ?_
                refine s_ek_call (ν := s_e201.1) (P := 12) (as := [.ref 151, .int (a / 10)]) (r := []) (fun _ => rfl) rfl ?_
                show s_Ek (s_rows 3 L xs) 1298 s_e201.1 0 [(0, .ref 151), (1, .int (a / 10))] [] s_M0 _
                refine s_ek_bk 6 (P := 8) (ls' := [(0, .ref 151), (1, .int (a / 10))]) (st' := [.int (-1), .int 0, .int (a / 10)]) (M' := s_M0) rfl ?_
                refine s_ek_call (ν := s_e181.1) (P := 11) (as := [.int (a / 10), .int 0, .int (-1)]) (r := []) (fun _ => rfl) rfl ?_
                show s_Ek (s_rows 3 L xs) 1297 s_e181.1 0 [(0, .int (a / 10)), (1, .int 0), (2, .int (-1))] [] s_M0 _
                refine s_ek_bk 2 (P := 2) (ls' := [(0, .int (a / 10)), (1, .int 0), (2, .int (-1))]) (st' := [.int 0, .int (a / 10)]) (M' := s_M0) rfl ?_
                refine s_ek_if2 (T := 14) rfl rfl (fun h8 => ?_) (fun h8 => ?_)
                · replace h8 : (a / 10).toInt < 0 := h8
                  refine s_ek_bk 1 (P := 15) (ls' := [(0, .int (a / 10)), (1, .int 0), (2, .int (-1))]) (st' := [.int 0]) (M' := s_M0) rfl ?_
                  refine s_ek_ret (o := some (.int 0)) (fun _ => rfl) ?_
                  show s_Ek (s_rows 3 L xs) 1298 s_e201.1 11 [(0, .ref 151), (1, .int (a / 10))] [.int 0] s_M0 _
                  refine s_ek_ret (o := some (.int 0)) (fun _ => rfl) ?_
                  show s_Ek (s_rows 3 L xs) 1299 s_e243.1 12 [(0, .ref 151), (1, .int a), (2, .int b)] [.int 0] s_M0 _
                  refine s_ek_bk 2 (P := 69) (ls' := [(0, .ref 151), (1, .int a), (2, .int b)]) (st' := [.int (-1)]) (M' := s_M0) rfl ?_
                  refine s_ek_ret (o := some (.int (-1))) (fun _ => rfl) ?_
                  exact rfl
                · replace h8 : ¬ ((a / 10).toInt < 0) := h8
                  replace h8 : 0 ≤ (a / 10).toInt := by omega
                  omega
            · replace h6 : ¬ ((a / 10).toInt < 0) := h6
              replace h6 : 0 ≤ (a / 10).toInt := by omega
              refine s_ek_bk 3 (P := 9) (ls' := [(0, .ref 8), (1, .int (a / 10))]) (st' := [.int 0, .int (a / 10)]) (M' := s_M0) rfl ?_
              refine s_ek_if2 (T := 16) rfl rfl (fun h7 => ?_) (fun h7 => ?_)
              · replace h7 : 0 ≤ (a / 10).toInt := h7
                refine s_ek_bk 1 (P := 17) (ls' := [(0, .ref 8), (1, .int (a / 10))]) (st' := [.int 0]) (M' := s_M0) rfl ?_
                refine s_ek_ret (o := some (.int 0)) (fun _ => rfl) ?_
                show s_Ek (s_rows 3 L xs) 1298 s_e46.1 5 [(0, .ref 8), (1, .int (a / 10))] [.int 0] s_M0 _
                refine s_ek_bk 2 (P := 28) (ls' := [(0, .ref 8), (1, .int (a / 10))]) (st' := [.int 0]) (M' := s_M0) rfl ?_
                refine s_ek_ret (o := some (.int 0)) (fun _ => rfl) ?_
                show s_Ek (s_rows 3 L xs) 1299 s_e147.1 44 [(4, .int (a - a / 10 * 10)), (3, .int (a / 10)), (0, .ref 0), (1, .int a), (2, .int b)] [.int 0] s_M0 _
                refine s_ek_bk 2 (P := 60) (ls' := [(4, .int (a - a / 10 * 10)), (3, .int (a / 10)), (0, .ref 0), (1, .int a), (2, .int b)]) (st' := [.int (-1)]) (M' := s_M0) rfl ?_
                refine s_ek_ret (o := some (.int (-1))) (fun _ => rfl) ?_
                refine ⟨(-1), rfl, ?_⟩
                show s_Ek (s_rows 3 L xs) 1299 s_e243.1 0 [(0, .ref 151), (1, .int a), (2, .int b)] [] s_M0 _
                refine s_ek_bk 1 (P := 1) (ls' := [(0, .ref 151), (1, .int a), (2, .int b)]) (st' := [.int a]) (M' := s_M0) rfl ?_
                refine s_ek_if1 (T := 68) rfl rfl (fun h8 => ?_) (fun h8 => ?_)
                · replace h8 : a.toInt < 0 := h8
                  omega
                · replace h8 : ¬ (a.toInt < 0) := h8
                  replace h8 : 0 ≤ a.toInt := by omega
                  refine s_ek_bk 4 (P := 9) (ls' := [(0, .ref 151), (1, .int a), (2, .int b)]) (st' := [.int (a / 10), .ref 151]) (M' := s_M0) rfl ?_
                  refine s_ek_call (ν := s_e201.1) (P := 12) (as := [.ref 151, .int (a / 10)]) (r := []) (fun _ => rfl) rfl ?_
                  show s_Ek (s_rows 3 L xs) 1298 s_e201.1 0 [(0, .ref 151), (1, .int (a / 10))] [] s_M0 _
                  refine s_ek_bk 6 (P := 8) (ls' := [(0, .ref 151), (1, .int (a / 10))]) (st' := [.int (-1), .int 0, .int (a / 10)]) (M' := s_M0) rfl ?_
                  refine s_ek_call (ν := s_e181.1) (P := 11) (as := [.int (a / 10), .int 0, .int (-1)]) (r := []) (fun _ => rfl) rfl ?_
                  show s_Ek (s_rows 3 L xs) 1297 s_e181.1 0 [(0, .int (a / 10)), (1, .int 0), (2, .int (-1))] [] s_M0 _
                  refine s_ek_bk 2 (P := 2) (ls' := [(0, .int (a / 10)), (1, .int 0), (2, .int (-1))]) (st' := [.int 0, .int (a / 10)]) (M' := s_M0) rfl ?_
                  refine s_ek_if2 (T := 14) rfl rfl (fun h9 => ?_) (fun h9 => ?_)
                  · replace h9 : (a / 10).toInt < 0 := h9
                    omega
                  · replace h9 : ¬ ((a / 10).toInt < 0) := h9
                    replace h9 : 0 ≤ (a / 10).toInt := by omega
                    refine s_ek_bk 2 (P := 7) (ls' := [(0, .int (a / 10)), (1, .int 0), (2, .int (-1))]) (st' := [.int (-1), .int (a / 10)]) (M' := s_M0) rfl ?_
                    refine s_ek_if2 (T := 14) rfl rfl (fun h10 => ?_) (fun h10 => ?_)
                    · replace h10 : (-1) < (a / 10).toInt := h10
                      refine s_ek_bk 1 (P := 15) (ls' := [(0, .int (a / 10)), (1, .int 0), (2, .int (-1))]) (st' := [.int 0]) (M' := s_M0) rfl ?_
                      refine s_ek_ret (o := some (.int 0)) (fun _ => rfl) ?_
                      show s_Ek (s_rows 3 L xs) 1298 s_e201.1 11 [(0, .ref 151), (1, .int (a / 10))] [.int 0] s_M0 _
                      refine s_ek_ret (o := some (.int 0)) (fun _ => rfl) ?_
                      show s_Ek (s_rows 3 L xs) 1299 s_e243.1 12 [(0, .ref 151), (1, .int a), (2, .int b)] [.int 0] s_M0 _
                      refine s_ek_bk 2 (P := 69) (ls' := [(0, .ref 151), (1, .int a), (2, .int b)]) (st' := [.int (-1)]) (M' := s_M0) rfl ?_
                      refine s_ek_ret (o := some (.int (-1))) (fun _ => rfl) ?_
                      exact rfl
                    · replace h10 : ¬ ((-1) < (a / 10).toInt) := h10
                      replace h10 : (a / 10).toInt ≤ (-1) := by omega
                      omega
              · replace h7 : ¬ (0 ≤ (a / 10).toInt) := h7
                replace h7 : (a / 10).toInt < 0 := by omega
                omega
