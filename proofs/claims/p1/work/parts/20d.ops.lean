/-! the calls on fresh objects: write bars -/
set_option maxHeartbeats 20000000 in
set_option maxRecDepth 100000 in
theorem s_op_write (L : Nat) (xs : Nat → Int32) (a : Int32) (b : Int32) (c : Int32) : s_Ek (s_rows 3 L xs) 1299 s_e148.1 0 (lv_args 0 [.ref 0, .int a, .int b, .int c]) [] s_M0 (fun v M1 => ∃ r : Int32, v = some (.int r) ∧ s_Ek (s_rows 3 L xs) 1299 s_e249.1 0 (lv_args 0 [.ref 151, .int a, .int b, .int c]) [] M1 (fun w _ => w = some (.int r))) := by
  show s_Ek (s_rows 3 L xs) 1299 s_e148.1 0 [(0, .ref 0), (1, .int a), (2, .int b), (3, .int c)] [] s_M0 _
  refine s_ek_bk 4 (P := 4) (ls' := [(0, .ref 0), (1, .int a), (2, .int b), (3, .int c)]) (st' := [.int c, .int b, .int a, .ref 0]) (M' := s_M0) rfl ?_
  refine s_ek_call (ν := s_e178.1) (P := 7) (as := [.ref 0, .int a, .int b, .int c]) (r := []) (fun _ => rfl) rfl ?_
  show s_Ek (s_rows 3 L xs) 1298 s_e178.1 0 [(0, .ref 0), (1, .int a), (2, .int b), (3, .int c)] [] s_M0 _
  refine s_ek_bk 1 (P := 1) (ls' := [(0, .ref 0), (1, .int a), (2, .int b), (3, .int c)]) (st' := [.int b]) (M' := s_M0) rfl ?_
  refine s_ek_call (ν := s_e169.1) (P := 4) (as := [.int b]) (r := []) (fun _ => rfl) rfl ?_
  show s_Ek (s_rows 3 L xs) 1297 s_e169.1 0 [(0, .int b)] [] s_M0 _
  refine s_ek_bk 1 (P := 1) (ls' := [(0, .int b)]) (st' := [.int b]) (M' := s_M0) rfl ?_
  refine s_ek_if1 (T := 14) rfl rfl (fun h1 => ?_) (fun h1 => ?_)
  · replace h1 : b.toInt < 0 := h1
    refine s_ek_bk 1 (P := 15) (ls' := [(0, .int b)]) (st' := [.int 0]) (M' := s_M0) rfl ?_
    refine s_ek_ret (o := some (.int 0)) (fun _ => rfl) ?_
    show s_Ek (s_rows 3 L xs) 1298 s_e178.1 4 [(0, .ref 0), (1, .int a), (2, .int b), (3, .int c)] [.int 0] s_M0 _
    refine s_ek_bk 2 (P := 23) (ls' := [(0, .ref 0), (1, .int a), (2, .int b), (3, .int c)]) (st' := [.int (-1)]) (M' := s_M0) rfl ?_
    refine s_ek_ret (o := some (.int (-1))) (fun _ => rfl) ?_
    show s_Ek (s_rows 3 L xs) 1299 s_e148.1 7 [(0, .ref 0), (1, .int a), (2, .int b), (3, .int c)] [.int (-1)] s_M0 _
    refine s_ek_bk 4 (P := 16) (ls' := [(4, .int (-1)), (0, .ref 0), (1, .int a), (2, .int b), (3, .int c)]) (st' := [.int (-1)]) (M' := s_M0) rfl ?_
    refine s_ek_ret (o := some (.int (-1))) (fun _ => rfl) ?_
    refine ⟨(-1), rfl, ?_⟩
    show s_Ek (s_rows 3 L xs) 1299 s_e249.1 0 [(0, .ref 151), (1, .int a), (2, .int b), (3, .int c)] [] s_M0 _
    refine s_ek_bk 1 (P := 1) (ls' := [(0, .ref 151), (1, .int a), (2, .int b), (3, .int c)]) (st' := [.int a]) (M' := s_M0) rfl ?_
    refine s_ek_call (ν := s_e281.1) (P := 4) (as := [.int a]) (r := []) (fun _ => rfl) rfl ?_
    show s_Ek (s_rows 3 L xs) 1298 s_e281.1 0 [(0, .int a)] [] s_M0 _
    refine s_ek_bk 3 (P := 3) (ls' := [(0, .int a)]) (st' := [.int 5, .int 0, .int a]) (M' := s_M0) rfl ?_
    refine s_ek_call (ν := s_e181.1) (P := 6) (as := [.int a, .int 0, .int 5]) (r := []) (fun _ => rfl) rfl ?_
    show s_Ek (s_rows 3 L xs) 1297 s_e181.1 0 [(0, .int a), (1, .int 0), (2, .int 5)] [] s_M0 _
    refine s_ek_bk 2 (P := 2) (ls' := [(0, .int a), (1, .int 0), (2, .int 5)]) (st' := [.int 0, .int a]) (M' := s_M0) rfl ?_
    refine s_ek_if2 (T := 14) rfl rfl (fun h2 => ?_) (fun h2 => ?_)
    · replace h2 : a.toInt < 0 := h2
      refine s_ek_bk 1 (P := 15) (ls' := [(0, .int a), (1, .int 0), (2, .int 5)]) (st' := [.int 0]) (M' := s_M0) rfl ?_
      refine s_ek_ret (o := some (.int 0)) (fun _ => rfl) ?_
      show s_Ek (s_rows 3 L xs) 1298 s_e281.1 6 [(0, .int a)] [.int 0] s_M0 _
      refine s_ek_ret (o := some (.int 0)) (fun _ => rfl) ?_
      show s_Ek (s_rows 3 L xs) 1299 s_e249.1 4 [(0, .ref 151), (1, .int a), (2, .int b), (3, .int c)] [.int 0] s_M0 _
      refine s_ek_bk 2 (P := 27) (ls' := [(0, .ref 151), (1, .int a), (2, .int b), (3, .int c)]) (st' := [.int (-1)]) (M' := s_M0) rfl ?_
      refine s_ek_ret (o := some (.int (-1))) (fun _ => rfl) ?_
      exact rfl
    · replace h2 : ¬ (a.toInt < 0) := h2
      replace h2 : 0 ≤ a.toInt := by omega
      refine s_ek_bk 2 (P := 7) (ls' := [(0, .int a), (1, .int 0), (2, .int 5)]) (st' := [.int 5, .int a]) (M' := s_M0) rfl ?_
      refine s_ek_if2 (T := 14) rfl rfl (fun h3 => ?_) (fun h3 => ?_)
      · replace h3 : 5 < a.toInt := h3
        refine s_ek_bk 1 (P := 15) (ls' := [(0, .int a), (1, .int 0), (2, .int 5)]) (st' := [.int 0]) (M' := s_M0) rfl ?_
        refine s_ek_ret (o := some (.int 0)) (fun _ => rfl) ?_
        show s_Ek (s_rows 3 L xs) 1298 s_e281.1 6 [(0, .int a)] [.int 0] s_M0 _
        refine s_ek_ret (o := some (.int 0)) (fun _ => rfl) ?_
        show s_Ek (s_rows 3 L xs) 1299 s_e249.1 4 [(0, .ref 151), (1, .int a), (2, .int b), (3, .int c)] [.int 0] s_M0 _
        refine s_ek_bk 2 (P := 27) (ls' := [(0, .ref 151), (1, .int a), (2, .int b), (3, .int c)]) (st' := [.int (-1)]) (M' := s_M0) rfl ?_
        refine s_ek_ret (o := some (.int (-1))) (fun _ => rfl) ?_
        exact rfl
      · replace h3 : ¬ (5 < a.toInt) := h3
        replace h3 : a.toInt ≤ 5 := by omega
        refine s_ek_bk 2 (P := 15) (ls' := [(0, .int a), (1, .int 0), (2, .int 5)]) (st' := [.int 1]) (M' := s_M0) rfl ?_
        refine s_ek_ret (o := some (.int 1)) (fun _ => rfl) ?_
        show s_Ek (s_rows 3 L xs) 1298 s_e281.1 6 [(0, .int a)] [.int 1] s_M0 _
        refine s_ek_ret (o := some (.int 1)) (fun _ => rfl) ?_
        show s_Ek (s_rows 3 L xs) 1299 s_e249.1 4 [(0, .ref 151), (1, .int a), (2, .int b), (3, .int c)] [.int 1] s_M0 _
        refine s_ek_bk 4 (P := 11) (ls' := [(0, .ref 151), (1, .int a), (2, .int b), (3, .int c)]) (st' := [.int 99, .int 0, .int b]) (M' := s_M0) rfl ?_
        refine s_ek_call (ν := s_e181.1) (P := 14) (as := [.int b, .int 0, .int 99]) (r := []) (fun _ => rfl) rfl ?_
        show s_Ek (s_rows 3 L xs) 1298 s_e181.1 0 [(0, .int b), (1, .int 0), (2, .int 99)] [] s_M0 _
        refine s_ek_bk 2 (P := 2) (ls' := [(0, .int b), (1, .int 0), (2, .int 99)]) (st' := [.int 0, .int b]) (M' := s_M0) rfl ?_
        refine s_ek_if2 (T := 14) rfl rfl (fun h4 => ?_) (fun h4 => ?_)
        · replace h4 : b.toInt < 0 := h4
          refine s_ek_bk 1 (P := 15) (ls' := [(0, .int b), (1, .int 0), (2, .int 99)]) (st' := [.int 0]) (M' := s_M0) rfl ?_
          refine s_ek_ret (o := some (.int 0)) (fun _ => rfl) ?_
          show s_Ek (s_rows 3 L xs) 1299 s_e249.1 14 [(0, .ref 151), (1, .int a), (2, .int b), (3, .int c)] [.int 0] s_M0 _
          refine s_ek_bk 2 (P := 27) (ls' := [(0, .ref 151), (1, .int a), (2, .int b), (3, .int c)]) (st' := [.int (-1)]) (M' := s_M0) rfl ?_
          refine s_ek_ret (o := some (.int (-1))) (fun _ => rfl) ?_
          exact rfl
        · replace h4 : ¬ (b.toInt < 0) := h4
          replace h4 : 0 ≤ b.toInt := by omega
          omega
  · replace h1 : ¬ (b.toInt < 0) := h1
    replace h1 : 0 ≤ b.toInt := by omega
    refine s_ek_bk 2 (P := 7) (ls' := [(0, .int b)]) (st' := [.int 99, .int b]) (M' := s_M0) rfl ?_
    refine s_ek_if2 (T := 14) rfl rfl (fun h2 => ?_) (fun h2 => ?_)
    · replace h2 : 99 < b.toInt := h2
      refine s_ek_bk 1 (P := 15) (ls' := [(0, .int b)]) (st' := [.int 0]) (M' := s_M0) rfl ?_
      refine s_ek_ret (o := some (.int 0)) (fun _ => rfl) ?_
      show s_Ek (s_rows 3 L xs) 1298 s_e178.1 4 [(0, .ref 0), (1, .int a), (2, .int b), (3, .int c)] [.int 0] s_M0 _
      refine s_ek_bk 2 (P := 23) (ls' := [(0, .ref 0), (1, .int a), (2, .int b), (3, .int c)]) (st' := [.int (-1)]) (M' := s_M0) rfl ?_
      refine s_ek_ret (o := some (.int (-1))) (fun _ => rfl) ?_
      show s_Ek (s_rows 3 L xs) 1299 s_e148.1 7 [(0, .ref 0), (1, .int a), (2, .int b), (3, .int c)] [.int (-1)] s_M0 _
      refine s_ek_bk 4 (P := 16) (ls' := [(4, .int (-1)), (0, .ref 0), (1, .int a), (2, .int b), (3, .int c)]) (st' := [.int (-1)]) (M' := s_M0) rfl ?_
      refine s_ek_ret (o := some (.int (-1))) (fun _ => rfl) ?_
      refine ⟨(-1), rfl, ?_⟩
      show s_Ek (s_rows 3 L xs) 1299 s_e249.1 0 [(0, .ref 151), (1, .int a), (2, .int b), (3, .int c)] [] s_M0 _
      refine s_ek_bk 1 (P := 1) (ls' := [(0, .ref 151), (1, .int a), (2, .int b), (3, .int c)]) (st' := [.int a]) (M' := s_M0) rfl ?_
      refine s_ek_call (ν := s_e281.1) (P := 4) (as := [.int a]) (r := []) (fun _ => rfl) rfl ?_
      show s_Ek (s_rows 3 L xs) 1298 s_e281.1 0 [(0, .int a)] [] s_M0 _
      refine s_ek_bk 3 (P := 3) (ls' := [(0, .int a)]) (st' := [.int 5, .int 0, .int a]) (M' := s_M0) rfl ?_
      refine s_ek_call (ν := s_e181.1) (P := 6) (as := [.int a, .int 0, .int 5]) (r := []) (fun _ => rfl) rfl ?_
      show s_Ek (s_rows 3 L xs) 1297 s_e181.1 0 [(0, .int a), (1, .int 0), (2, .int 5)] [] s_M0 _
      refine s_ek_bk 2 (P := 2) (ls' := [(0, .int a), (1, .int 0), (2, .int 5)]) (st' := [.int 0, .int a]) (M' := s_M0) rfl ?_
      refine s_ek_if2 (T := 14) rfl rfl (fun h3 => ?_) (fun h3 => ?_)
      · replace h3 : a.toInt < 0 := h3
        refine s_ek_bk 1 (P := 15) (ls' := [(0, .int a), (1, .int 0), (2, .int 5)]) (st' := [.int 0]) (M' := s_M0) rfl ?_
        refine s_ek_ret (o := some (.int 0)) (fun _ => rfl) ?_
        show s_Ek (s_rows 3 L xs) 1298 s_e281.1 6 [(0, .int a)] [.int 0] s_M0 _
        refine s_ek_ret (o := some (.int 0)) (fun _ => rfl) ?_
        show s_Ek (s_rows 3 L xs) 1299 s_e249.1 4 [(0, .ref 151), (1, .int a), (2, .int b), (3, .int c)] [.int 0] s_M0 _
        refine s_ek_bk 2 (P := 27) (ls' := [(0, .ref 151), (1, .int a), (2, .int b), (3, .int c)]) (st' := [.int (-1)]) (M' := s_M0) rfl ?_
        refine s_ek_ret (o := some (.int (-1))) (fun _ => rfl) ?_
        exact rfl
      · replace h3 : ¬ (a.toInt < 0) := h3
        replace h3 : 0 ≤ a.toInt := by omega
        refine s_ek_bk 2 (P := 7) (ls' := [(0, .int a), (1, .int 0), (2, .int 5)]) (st' := [.int 5, .int a]) (M' := s_M0) rfl ?_
        refine s_ek_if2 (T := 14) rfl rfl (fun h4 => ?_) (fun h4 => ?_)
        · replace h4 : 5 < a.toInt := h4
          refine s_ek_bk 1 (P := 15) (ls' := [(0, .int a), (1, .int 0), (2, .int 5)]) (st' := [.int 0]) (M' := s_M0) rfl ?_
          refine s_ek_ret (o := some (.int 0)) (fun _ => rfl) ?_
          show s_Ek (s_rows 3 L xs) 1298 s_e281.1 6 [(0, .int a)] [.int 0] s_M0 _
          refine s_ek_ret (o := some (.int 0)) (fun _ => rfl) ?_
          show s_Ek (s_rows 3 L xs) 1299 s_e249.1 4 [(0, .ref 151), (1, .int a), (2, .int b), (3, .int c)] [.int 0] s_M0 _
          refine s_ek_bk 2 (P := 27) (ls' := [(0, .ref 151), (1, .int a), (2, .int b), (3, .int c)]) (st' := [.int (-1)]) (M' := s_M0) rfl ?_
          refine s_ek_ret (o := some (.int (-1))) (fun _ => rfl) ?_
          exact rfl
        · replace h4 : ¬ (5 < a.toInt) := h4
          replace h4 : a.toInt ≤ 5 := by omega
          refine s_ek_bk 2 (P := 15) (ls' := [(0, .int a), (1, .int 0), (2, .int 5)]) (st' := [.int 1]) (M' := s_M0) rfl ?_
          refine s_ek_ret (o := some (.int 1)) (fun _ => rfl) ?_
          show s_Ek (s_rows 3 L xs) 1298 s_e281.1 6 [(0, .int a)] [.int 1] s_M0 _
          refine s_ek_ret (o := some (.int 1)) (fun _ => rfl) ?_
          show s_Ek (s_rows 3 L xs) 1299 s_e249.1 4 [(0, .ref 151), (1, .int a), (2, .int b), (3, .int c)] [.int 1] s_M0 _
          refine s_ek_bk 4 (P := 11) (ls' := [(0, .ref 151), (1, .int a), (2, .int b), (3, .int c)]) (st' := [.int 99, .int 0, .int b]) (M' := s_M0) rfl ?_
          refine s_ek_call (ν := s_e181.1) (P := 14) (as := [.int b, .int 0, .int 99]) (r := []) (fun _ => rfl) rfl ?_
          show s_Ek (s_rows 3 L xs) 1298 s_e181.1 0 [(0, .int b), (1, .int 0), (2, .int 99)] [] s_M0 _
          refine s_ek_bk 2 (P := 2) (ls' := [(0, .int b), (1, .int 0), (2, .int 99)]) (st' := [.int 0, .int b]) (M' := s_M0) rfl ?_
          refine s_ek_if2 (T := 14) rfl rfl (fun h5 => ?_) (fun h5 => ?_)
          · replace h5 : b.toInt < 0 := h5
            omega
          · replace h5 : ¬ (b.toInt < 0) := h5
            replace h5 : 0 ≤ b.toInt := by omega
            refine s_ek_bk 2 (P := 7) (ls' := [(0, .int b), (1, .int 0), (2, .int 99)]) (st' := [.int 99, .int b]) (M' := s_M0) rfl ?_
            refine s_ek_if2 (T := 14) rfl rfl (fun h6 => ?_) (fun h6 => ?_)
            · replace h6 : 99 < b.toInt := h6
              refine s_ek_bk 1 (P := 15) (ls' := [(0, .int b), (1, .int 0), (2, .int 99)]) (st' := [.int 0]) (M' := s_M0) rfl ?_
              refine s_ek_ret (o := some (.int 0)) (fun _ => rfl) ?_
              show s_Ek (s_rows 3 L xs) 1299 s_e249.1 14 [(0, .ref 151), (1, .int a), (2, .int b), (3, .int c)] [.int 0] s_M0 _
              refine s_ek_bk 2 (P := 27) (ls' := [(0, .ref 151), (1, .int a), (2, .int b), (3, .int c)]) (st' := [.int (-1)]) (M' := s_M0) rfl ?_
              refine s_ek_ret (o := some (.int (-1))) (fun _ => rfl) ?_
              exact rfl
            · replace h6 : ¬ (99 < b.toInt) := h6
              replace h6 : b.toInt ≤ 99 := by omega
              omega
    · replace h2 : ¬ (99 < b.toInt) := h2
      replace h2 : b.toInt ≤ 99 := by omega
      refine s_ek_bk 2 (P := 15) (ls' := [(0, .int b)]) (st' := [.int 1]) (M' := s_M0) rfl ?_
      refine s_ek_ret (o := some (.int 1)) (fun _ => rfl) ?_
      show s_Ek (s_rows 3 L xs) 1298 s_e178.1 4 [(0, .ref 0), (1, .int a), (2, .int b), (3, .int c)] [.int 1] s_M0 _
      refine s_ek_bk 2 (P := 8) (ls' := [(0, .ref 0), (1, .int a), (2, .int b), (3, .int c)]) (st' := [.int c]) (M' := s_M0) rfl ?_
      refine s_ek_call (ν := s_e170.1) (P := 11) (as := [.int c]) (r := []) (fun _ => rfl) rfl ?_
      show s_Ek (s_rows 3 L xs) 1297 s_e170.1 0 [(0, .int c)] [] s_M0 _
      refine s_ek_bk 1 (P := 1) (ls' := [(0, .int c)]) (st' := [.int c]) (M' := s_M0) rfl ?_
      refine s_ek_if1 (T := 13) rfl rfl (fun h3 => ?_) (fun h3 => ?_)
      · replace h3 : c.toInt < 0 := h3
        refine s_ek_bk 1 (P := 14) (ls' := [(0, .int c)]) (st' := [.int 0]) (M' := s_M0) rfl ?_
        refine s_ek_ret (o := some (.int 0)) (fun _ => rfl) ?_
        show s_Ek (s_rows 3 L xs) 1298 s_e178.1 11 [(0, .ref 0), (1, .int a), (2, .int b), (3, .int c)] [.int 0] s_M0 _
        refine s_ek_bk 2 (P := 23) (ls' := [(0, .ref 0), (1, .int a), (2, .int b), (3, .int c)]) (st' := [.int (-1)]) (M' := s_M0) rfl ?_
        refine s_ek_ret (o := some (.int (-1))) (fun _ => rfl) ?_
        show s_Ek (s_rows 3 L xs) 1299 s_e148.1 7 [(0, .ref 0), (1, .int a), (2, .int b), (3, .int c)] [.int (-1)] s_M0 _
        refine s_ek_bk 4 (P := 16) (ls' := [(4, .int (-1)), (0, .ref 0), (1, .int a), (2, .int b), (3, .int c)]) (st' := [.int (-1)]) (M' := s_M0) rfl ?_
        refine s_ek_ret (o := some (.int (-1))) (fun _ => rfl) ?_
        refine ⟨(-1), rfl, ?_⟩
        show s_Ek (s_rows 3 L xs) 1299 s_e249.1 0 [(0, .ref 151), (1, .int a), (2, .int b), (3, .int c)] [] s_M0 _
        refine s_ek_bk 1 (P := 1) (ls' := [(0, .ref 151), (1, .int a), (2, .int b), (3, .int c)]) (st' := [.int a]) (M' := s_M0) rfl ?_
        refine s_ek_call (ν := s_e281.1) (P := 4) (as := [.int a]) (r := []) (fun _ => rfl) rfl ?_
        show s_Ek (s_rows 3 L xs) 1298 s_e281.1 0 [(0, .int a)] [] s_M0 _
        refine s_ek_bk 3 (P := 3) (ls' := [(0, .int a)]) (st' := [.int 5, .int 0, .int a]) (M' := s_M0) rfl ?_
        refine s_ek_call (ν := s_e181.1) (P := 6) (as := [.int a, .int 0, .int 5]) (r := []) (fun _ => rfl) rfl ?_
        show s_Ek (s_rows 3 L xs) 1297 s_e181.1 0 [(0, .int a), (1, .int 0), (2, .int 5)] [] s_M0 _
        refine s_ek_bk 2 (P := 2) (ls' := [(0, .int a), (1, .int 0), (2, .int 5)]) (st' := [.int 0, .int a]) (M' := s_M0) rfl ?_
        refine s_ek_if2 (T := 14) rfl rfl (fun h4 => ?_) (fun h4 => ?_)
        · replace h4 : a.toInt < 0 := h4
          refine s_ek_bk 1 (P := 15) (ls' := [(0, .int a), (1, .int 0), (2, .int 5)]) (st' := [.int 0]) (M' := s_M0) rfl ?_
          refine s_ek_ret (o := some (.int 0)) (fun _ => rfl) ?_
          show s_Ek (s_rows 3 L xs) 1298 s_e281.1 6 [(0, .int a)] [.int 0] s_M0 _
          refine s_ek_ret (o := some (.int 0)) (fun _ => rfl) ?_
          show s_Ek (s_rows 3 L xs) 1299 s_e249.1 4 [(0, .ref 151), (1, .int a), (2, .int b), (3, .int c)] [.int 0] s_M0 _
          refine s_ek_bk 2 (P := 27) (ls' := [(0, .ref 151), (1, .int a), (2, .int b), (3, .int c)]) (st' := [.int (-1)]) (M' := s_M0) rfl ?_
          refine s_ek_ret (o := some (.int (-1))) (fun _ => rfl) ?_
          exact rfl
        · replace h4 : ¬ (a.toInt < 0) := h4
          replace h4 : 0 ≤ a.toInt := by omega
          refine s_ek_bk 2 (P := 7) (ls' := [(0, .int a), (1, .int 0), (2, .int 5)]) (st' := [.int 5, .int a]) (M' := s_M0) rfl ?_
          refine s_ek_if2 (T := 14) rfl rfl (fun h5 => ?_) (fun h5 => ?_)
          · replace h5 : 5 < a.toInt := h5
            refine s_ek_bk 1 (P := 15) (ls' := [(0, .int a), (1, .int 0), (2, .int 5)]) (st' := [.int 0]) (M' := s_M0) rfl ?_
            refine s_ek_ret (o := some (.int 0)) (fun _ => rfl) ?_
            show s_Ek (s_rows 3 L xs) 1298 s_e281.1 6 [(0, .int a)] [.int 0] s_M0 _
            refine s_ek_ret (o := some (.int 0)) (fun _ => rfl) ?_
            show s_Ek (s_rows 3 L xs) 1299 s_e249.1 4 [(0, .ref 151), (1, .int a), (2, .int b), (3, .int c)] [.int 0] s_M0 _
            refine s_ek_bk 2 (P := 27) (ls' := [(0, .ref 151), (1, .int a), (2, .int b), (3, .int c)]) (st' := [.int (-1)]) (M' := s_M0) rfl ?_
            refine s_ek_ret (o := some (.int (-1))) (fun _ => rfl) ?_
            exact rfl
          · replace h5 : ¬ (5 < a.toInt) := h5
            replace h5 : a.toInt ≤ 5 := by omega
            refine s_ek_bk 2 (P := 15) (ls' := [(0, .int a), (1, .int 0), (2, .int 5)]) (st' := [.int 1]) (M' := s_M0) rfl ?_
            refine s_ek_ret (o := some (.int 1)) (fun _ => rfl) ?_
            show s_Ek (s_rows 3 L xs) 1298 s_e281.1 6 [(0, .int a)] [.int 1] s_M0 _
            refine s_ek_ret (o := some (.int 1)) (fun _ => rfl) ?_
            show s_Ek (s_rows 3 L xs) 1299 s_e249.1 4 [(0, .ref 151), (1, .int a), (2, .int b), (3, .int c)] [.int 1] s_M0 _
            refine s_ek_bk 4 (P := 11) (ls' := [(0, .ref 151), (1, .int a), (2, .int b), (3, .int c)]) (st' := [.int 99, .int 0, .int b]) (M' := s_M0) rfl ?_
            refine s_ek_call (ν := s_e181.1) (P := 14) (as := [.int b, .int 0, .int 99]) (r := []) (fun _ => rfl) rfl ?_
            show s_Ek (s_rows 3 L xs) 1298 s_e181.1 0 [(0, .int b), (1, .int 0), (2, .int 99)] [] s_M0 _
            refine s_ek_bk 2 (P := 2) (ls' := [(0, .int b), (1, .int 0), (2, .int 99)]) (st' := [.int 0, .int b]) (M' := s_M0) rfl ?_
            refine s_ek_if2 (T := 14) rfl rfl (fun h6 => ?_) (fun h6 => ?_)
            · replace h6 : b.toInt < 0 := h6
              omega
            · replace h6 : ¬ (b.toInt < 0) := h6
              replace h6 : 0 ≤ b.toInt := by omega
              refine s_ek_bk 2 (P := 7) (ls' := [(0, .int b), (1, .int 0), (2, .int 99)]) (st' := [.int 99, .int b]) (M' := s_M0) rfl ?_
              refine s_ek_if2 (T := 14) rfl rfl (fun h7 => ?_) (fun h7 => ?_)
              · replace h7 : 99 < b.toInt := h7
                omega
              · replace h7 : ¬ (99 < b.toInt) := h7
                replace h7 : b.toInt ≤ 99 := by omega
                refine s_ek_bk 2 (P := 15) (ls' := [(0, .int b), (1, .int 0), (2, .int 99)]) (st' := [.int 1]) (M' := s_M0) rfl ?_
                refine s_ek_ret (o := some (.int 1)) (fun _ => rfl) ?_
                show s_Ek (s_rows 3 L xs) 1299 s_e249.1 14 [(0, .ref 151), (1, .int a), (2, .int b), (3, .int c)] [.int 1] s_M0 _
                refine s_ek_bk 4 (P := 20) (ls' := [(0, .ref 151), (1, .int a), (2, .int b), (3, .int c)]) (st' := [.int 2, .int 0, .int c]) (M' := s_M0) rfl ?_
                refine s_ek_call (ν := s_e181.1) (P := 23) (as := [.int c, .int 0, .int 2]) (r := []) (fun _ => rfl) rfl ?_
                show s_Ek (s_rows 3 L xs) 1298 s_e181.1 0 [(0, .int c), (1, .int 0), (2, .int 2)] [] s_M0 _
                refine s_ek_bk 2 (P := 2) (ls' := [(0, .int c), (1, .int 0), (2, .int 2)]) (st' := [.int 0, .int c]) (M' := s_M0) rfl ?_
                refine s_ek_if2 (T := 14) rfl rfl (fun h8 => ?_) (fun h8 => ?_)
                · replace h8 : c.toInt < 0 := h8
                  refine s_ek_bk 1 (P := 15) (ls' := [(0, .int c), (1, .int 0), (2, .int 2)]) (st' := [.int 0]) (M' := s_M0) rfl ?_
                  refine s_ek_ret (o := some (.int 0)) (fun _ => rfl) ?_
                  show s_Ek (s_rows 3 L xs) 1299 s_e249.1 23 [(0, .ref 151), (1, .int a), (2, .int b), (3, .int c)] [.int 0] s_M0 _
                  refine s_ek_bk 2 (P := 27) (ls' := [(0, .ref 151), (1, .int a), (2, .int b), (3, .int c)]) (st' := [.int (-1)]) (M' := s_M0) rfl ?_
                  refine s_ek_ret (o := some (.int (-1))) (fun _ => rfl) ?_
                  exact rfl
                · replace h8 : ¬ (c.toInt < 0) := h8
                  replace h8 : 0 ≤ c.toInt := by omega
                  omega
      · replace h3 : ¬ (c.toInt < 0) := h3
        replace h3 : 0 ≤ c.toInt := by omega
        refine s_ek_bk 2 (P := 6) (ls' := [(0, .int c)]) (st' := [.int 2, .int c]) (M' := s_M0) rfl ?_
        refine s_ek_if2 (T := 13) rfl rfl (fun h4 => ?_) (fun h4 => ?_)
        · replace h4 : 2 < c.toInt := h4
          refine s_ek_bk 1 (P := 14) (ls' := [(0, .int c)]) (st' := [.int 0]) (M' := s_M0) rfl ?_
          refine s_ek_ret (o := some (.int 0)) (fun _ => rfl) ?_
          show s_Ek (s_rows 3 L xs) 1298 s_e178.1 11 [(0, .ref 0), (1, .int a), (2, .int b), (3, .int c)] [.int 0] s_M0 _
          refine s_ek_bk 2 (P := 23) (ls' := [(0, .ref 0), (1, .int a), (2, .int b), (3, .int c)]) (st' := [.int (-1)]) (M' := s_M0) rfl ?_
          refine s_ek_ret (o := some (.int (-1))) (fun _ => rfl) ?_
          show s_Ek (s_rows 3 L xs) 1299 s_e148.1 7 [(0, .ref 0), (1, .int a), (2, .int b), (3, .int c)] [.int (-1)] s_M0 _
          refine s_ek_bk 4 (P := 16) (ls' := [(4, .int (-1)), (0, .ref 0), (1, .int a), (2, .int b), (3, .int c)]) (st' := [.int (-1)]) (M' := s_M0) rfl ?_
          refine s_ek_ret (o := some (.int (-1))) (fun _ => rfl) ?_
          refine ⟨(-1), rfl, ?_⟩
          show s_Ek (s_rows 3 L xs) 1299 s_e249.1 0 [(0, .ref 151), (1, .int a), (2, .int b), (3, .int c)] [] s_M0 _
          refine s_ek_bk 1 (P := 1) (ls' := [(0, .ref 151), (1, .int a), (2, .int b), (3, .int c)]) (st' := [.int a]) (M' := s_M0) rfl ?_
          refine s_ek_call (ν := s_e281.1) (P := 4) (as := [.int a]) (r := []) (fun _ => rfl) rfl ?_
          show s_Ek (s_rows 3 L xs) 1298 s_e281.1 0 [(0, .int a)] [] s_M0 _
          refine s_ek_bk 3 (P := 3) (ls' := [(0, .int a)]) (st' := [.int 5, .int 0, .int a]) (M' := s_M0) rfl ?_
          refine s_ek_call (ν := s_e181.1) (P := 6) (as := [.int a, .int 0, .int 5]) (r := []) (fun _ => rfl) rfl ?_
          show s_Ek (s_rows 3 L xs) 1297 s_e181.1 0 [(0, .int a), (1, .int 0), (2, .int 5)] [] s_M0 _
          refine s_ek_bk 2 (P := 2) (ls' := [(0, .int a), (1, .int 0), (2, .int 5)]) (st' := [.int 0, .int a]) (M' := s_M0) rfl ?_
          refine s_ek_if2 (T := 14) rfl rfl (fun h5 => ?_) (fun h5 => ?_)
          · replace h5 : a.toInt < 0 := h5
            refine s_ek_bk 1 (P := 15) (ls' := [(0, .int a), (1, .int 0), (2, .int 5)]) (st' := [.int 0]) (M' := s_M0) rfl ?_
            refine s_ek_ret (o := some (.int 0)) (fun _ => rfl) ?_
            show s_Ek (s_rows 3 L xs) 1298 s_e281.1 6 [(0, .int a)] [.int 0] s_M0 _
            refine s_ek_ret (o := some (.int 0)) (fun _ => rfl) ?_
            show s_Ek (s_rows 3 L xs) 1299 s_e249.1 4 [(0, .ref 151), (1, .int a), (2, .int b), (3, .int c)] [.int 0] s_M0 _
            refine s_ek_bk 2 (P := 27) (ls' := [(0, .ref 151), (1, .int a), (2, .int b), (3, .int c)]) (st' := [.int (-1)]) (M' := s_M0) rfl ?_
            refine s_ek_ret (o := some (.int (-1))) (fun _ => rfl) ?_
            exact rfl
          · replace h5 : ¬ (a.toInt < 0) := h5
            replace h5 : 0 ≤ a.toInt := by omega
            refine s_ek_bk 2 (P := 7) (ls' := [(0, .int a), (1, .int 0), (2, .int 5)]) (st' := [.int 5, .int a]) (M' := s_M0) rfl ?_
            refine s_ek_if2 (T := 14) rfl rfl (fun h6 => ?_) (fun h6 => ?_)
            · replace h6 : 5 < a.toInt := h6
              refine s_ek_bk 1 (P := 15) (ls' := [(0, .int a), (1, .int 0), (2, .int 5)]) (st' := [.int 0]) (M' := s_M0) rfl ?_
              refine s_ek_ret (o := some (.int 0)) (fun _ => rfl) ?_
              show s_Ek (s_rows 3 L xs) 1298 s_e281.1 6 [(0, .int a)] [.int 0] s_M0 _
              refine s_ek_ret (o := some (.int 0)) (fun _ => rfl) ?_
              show s_Ek (s_rows 3 L xs) 1299 s_e249.1 4 [(0, .ref 151), (1, .int a), (2, .int b), (3, .int c)] [.int 0] s_M0 _
              refine s_ek_bk 2 (P := 27) (ls' := [(0, .ref 151), (1, .int a), (2, .int b), (3, .int c)]) (st' := [.int (-1)]) (M' := s_M0) rfl ?_
              refine s_ek_ret (o := some (.int (-1))) (fun _ => rfl) ?_
              exact rfl
            · replace h6 : ¬ (5 < a.toInt) := h6
              replace h6 : a.toInt ≤ 5 := by omega
              refine s_ek_bk 2 (P := 15) (ls' := [(0, .int a), (1, .int 0), (2, .int 5)]) (st' := [.int 1]) (M' := s_M0) rfl ?_
              refine s_ek_ret (o := some (.int 1)) (fun _ => rfl) ?_
              show s_Ek (s_rows 3 L xs) 1298 s_e281.1 6 [(0, .int a)] [.int 1] s_M0 _
              refine s_ek_ret (o := some (.int 1)) (fun _ => rfl) ?_
              show s_Ek (s_rows 3 L xs) 1299 s_e249.1 4 [(0, .ref 151), (1, .int a), (2, .int b), (3, .int c)] [.int 1] s_M0 _
              refine s_ek_bk 4 (P := 11) (ls' := [(0, .ref 151), (1, .int a), (2, .int b), (3, .int c)]) (st' := [.int 99, .int 0, .int b]) (M' := s_M0) rfl ?_
              refine s_ek_call (ν := s_e181.1) (P := 14) (as := [.int b, .int 0, .int 99]) (r := []) (fun _ => rfl) rfl ?_
              show s_Ek (s_rows 3 L xs) 1298 s_e181.1 0 [(0, .int b), (1, .int 0), (2, .int 99)] [] s_M0 _
              refine s_ek_bk 2 (P := 2) (ls' := [(0, .int b), (1, .int 0), (2, .int 99)]) (st' := [.int 0, .int b]) (M' := s_M0) rfl ?_
              refine s_ek_if2 (T := 14) rfl rfl (fun h7 => ?_) (fun h7 => ?_)
              · replace h7 : b.toInt < 0 := h7
                omega
              · replace h7 : ¬ (b.toInt < 0) := h7
                replace h7 : 0 ≤ b.toInt := by omega
                refine s_ek_bk 2 (P := 7) (ls' := [(0, .int b), (1, .int 0), (2, .int 99)]) (st' := [.int 99, .int b]) (M' := s_M0) rfl ?_
                refine s_ek_if2 (T := 14) rfl rfl (fun h8 => ?_) (fun h8 => ?_)
                · replace h8 : 99 < b.toInt := h8
                  omega
                · replace h8 : ¬ (99 < b.toInt) := h8
                  replace h8 : b.toInt ≤ 99 := by omega
                  refine s_ek_bk 2 (P := 15) (ls' := [(0, .int b), (1, .int 0), (2, .int 99)]) (st' := [.int 1]) (M' := s_M0) rfl ?_
                  refine s_ek_ret (o := some (.int 1)) (fun _ => rfl) ?_
                  show s_Ek (s_rows 3 L xs) 1299 s_e249.1 14 [(0, .ref 151), (1, .int a), (2, .int b), (3, .int c)] [.int 1] s_M0 _
                  refine s_ek_bk 4 (P := 20) (ls' := [(0, .ref 151), (1, .int a), (2, .int b), (3, .int c)]) (st' := [.int 2, .int 0, .int c]) (M' := s_M0) rfl ?_
                  refine s_ek_call (ν := s_e181.1) (P := 23) (as := [.int c, .int 0, .int 2]) (r := []) (fun _ => rfl) rfl ?_
                  show s_Ek (s_rows 3 L xs) 1298 s_e181.1 0 [(0, .int c), (1, .int 0), (2, .int 2)] [] s_M0 _
                  refine s_ek_bk 2 (P := 2) (ls' := [(0, .int c), (1, .int 0), (2, .int 2)]) (st' := [.int 0, .int c]) (M' := s_M0) rfl ?_
                  refine s_ek_if2 (T := 14) rfl rfl (fun h9 => ?_) (fun h9 => ?_)
                  · replace h9 : c.toInt < 0 := h9
                    omega
                  · replace h9 : ¬ (c.toInt < 0) := h9
                    replace h9 : 0 ≤ c.toInt := by omega
                    refine s_ek_bk 2 (P := 7) (ls' := [(0, .int c), (1, .int 0), (2, .int 2)]) (st' := [.int 2, .int c]) (M' := s_M0) rfl ?_
                    refine s_ek_if2 (T := 14) rfl rfl (fun h10 => ?_) (fun h10 => ?_)
                    · replace h10 : 2 < c.toInt := h10
                      refine s_ek_bk 1 (P := 15) (ls' := [(0, .int c), (1, .int 0), (2, .int 2)]) (st' := [.int 0]) (M' := s_M0) rfl ?_
                      refine s_ek_ret (o := some (.int 0)) (fun _ => rfl) ?_
                      show s_Ek (s_rows 3 L xs) 1299 s_e249.1 23 [(0, .ref 151), (1, .int a), (2, .int b), (3, .int c)] [.int 0] s_M0 _
                      refine s_ek_bk 2 (P := 27) (ls' := [(0, .ref 151), (1, .int a), (2, .int b), (3, .int c)]) (st' := [.int (-1)]) (M' := s_M0) rfl ?_
                      refine s_ek_ret (o := some (.int (-1))) (fun _ => rfl) ?_
                      exact rfl
                    · replace h10 : ¬ (2 < c.toInt) := h10
                      replace h10 : c.toInt ≤ 2 := by omega
                      omega
        · replace h4 : ¬ (2 < c.toInt) := h4
          replace h4 : c.toInt ≤ 2 := by omega
          refine s_ek_bk 2 (P := 14) (ls' := [(0, .int c)]) (st' := [.int 1]) (M' := s_M0) rfl ?_
          refine s_ek_ret (o := some (.int 1)) (fun _ => rfl) ?_
          show s_Ek (s_rows 3 L xs) 1298 s_e178.1 11 [(0, .ref 0), (1, .int a), (2, .int b), (3, .int c)] [.int 1] s_M0 _
          refine s_ek_bk 3 (P := 16) (ls' := [(0, .ref 0), (1, .int a), (2, .int b), (3, .int c)]) (st' := [.int a, .ref 0]) (M' := s_M0) rfl ?_
          refine s_ek_call (ν := s_e177.1) (P := 19) (as := [.ref 0, .int a]) (r := []) (fun _ => rfl) rfl ?_
          show s_Ek (s_rows 3 L xs) 1297 s_e177.1 0 [(0, .ref 0), (1, .int a)] [] s_M0 _
          refine s_ek_bk 1 (P := 1) (ls' := [(0, .ref 0), (1, .int a)]) (st' := [.int a]) (M' := s_M0) rfl ?_
          refine s_ek_call (ν := s_e175.1) (P := 4) (as := [.int a]) (r := []) (fun _ => rfl) rfl ?_
          show s_Ek (s_rows 3 L xs) 1296 s_e175.1 0 [(0, .int a)] [] s_M0 _
          refine s_ek_bk 1 (P := 1) (ls' := [(0, .int a)]) (st' := [.int a]) (M' := s_M0) rfl ?_
          refine s_ek_if1 (T := 14) rfl rfl (fun h5 => ?_) (fun h5 => ?_)
          · replace h5 : a.toInt < 0 := h5
            refine s_ek_bk 1 (P := 15) (ls' := [(0, .int a)]) (st' := [.int 0]) (M' := s_M0) rfl ?_
            refine s_ek_ret (o := some (.int 0)) (fun _ => rfl) ?_
            show s_Ek (s_rows 3 L xs) 1297 s_e177.1 4 [(0, .ref 0), (1, .int a)] [.int 0] s_M0 _
            refine s_ek_bk 2 (P := 8) (ls' := [(0, .ref 0), (1, .int a)]) (st' := [.int (-1)]) (M' := s_M0) rfl ?_
            refine s_ek_ret (o := some (.int (-1))) (fun _ => rfl) ?_
            show s_Ek (s_rows 3 L xs) 1298 s_e178.1 19 [(0, .ref 0), (1, .int a), (2, .int b), (3, .int c)] [.int (-1)] s_M0 _
            refine s_ek_bk 1 (P := 23) (ls' := [(0, .ref 0), (1, .int a), (2, .int b), (3, .int c)]) (st' := [.int (-1)]) (M' := s_M0) rfl ?_
            refine s_ek_ret (o := some (.int (-1))) (fun _ => rfl) ?_
            show s_Ek (s_rows 3 L xs) 1299 s_e148.1 7 [(0, .ref 0), (1, .int a), (2, .int b), (3, .int c)] [.int (-1)] s_M0 _
            refine s_ek_bk 4 (P := 16) (ls' := [(4, .int (-1)), (0, .ref 0), (1, .int a), (2, .int b), (3, .int c)]) (st' := [.int (-1)]) (M' := s_M0) rfl ?_
            refine s_ek_ret (o := some (.int (-1))) (fun _ => rfl) ?_
            refine ⟨(-1), rfl, ?_⟩
            show s_Ek (s_rows 3 L xs) 1299 s_e249.1 0 [(0, .ref 151), (1, .int a), (2, .int b), (3, .int c)] [] s_M0 _
            refine s_ek_bk 1 (P := 1) (ls' := [(0, .ref 151), (1, .int a), (2, .int b), (3, .int c)]) (st' := [.int a]) (M' := s_M0) rfl ?_
            refine s_ek_call (ν := s_e281.1) (P := 4) (as := [.int a]) (r := []) (fun _ => rfl) rfl ?_
            show s_Ek (s_rows 3 L xs) 1298 s_e281.1 0 [(0, .int a)] [] s_M0 _
            refine s_ek_bk 3 (P := 3) (ls' := [(0, .int a)]) (st' := [.int 5, .int 0, .int a]) (M' := s_M0) rfl ?_
            refine s_ek_call (ν := s_e181.1) (P := 6) (as := [.int a, .int 0, .int 5]) (r := []) (fun _ => rfl) rfl ?_
            show s_Ek (s_rows 3 L xs) 1297 s_e181.1 0 [(0, .int a), (1, .int 0), (2, .int 5)] [] s_M0 _
            refine s_ek_bk 2 (P := 2) (ls' := [(0, .int a), (1, .int 0), (2, .int 5)]) (st' := [.int 0, .int a]) (M' := s_M0) rfl ?_
            refine s_ek_if2 (T := 14) rfl rfl (fun h6 => ?_) (fun h6 => ?_)
            · replace h6 : a.toInt < 0 := h6
              refine s_ek_bk 1 (P := 15) (ls' := [(0, .int a), (1, .int 0), (2, .int 5)]) (st' := [.int 0]) (M' := s_M0) rfl ?_
              refine s_ek_ret (o := some (.int 0)) (fun _ => rfl) ?_
              show s_Ek (s_rows 3 L xs) 1298 s_e281.1 6 [(0, .int a)] [.int 0] s_M0 _
              refine s_ek_ret (o := some (.int 0)) (fun _ => rfl) ?_
              show s_Ek (s_rows 3 L xs) 1299 s_e249.1 4 [(0, .ref 151), (1, .int a), (2, .int b), (3, .int c)] [.int 0] s_M0 _
              refine s_ek_bk 2 (P := 27) (ls' := [(0, .ref 151), (1, .int a), (2, .int b), (3, .int c)]) (st' := [.int (-1)]) (M' := s_M0) rfl ?_
              refine s_ek_ret (o := some (.int (-1))) (fun _ => rfl) ?_
              exact rfl
            · replace h6 : ¬ (a.toInt < 0) := h6
              replace h6 : 0 ≤ a.toInt := by omega
              omega
          · replace h5 : ¬ (a.toInt < 0) := h5
            replace h5 : 0 ≤ a.toInt := by omega
            refine s_ek_bk 2 (P := 7) (ls' := [(0, .int a)]) (st' := [.int 6, .int a]) (M' := s_M0) rfl ?_
            refine s_ek_if2 (T := 14) rfl rfl (fun h6 => ?_) (fun h6 => ?_)
            · replace h6 : 6 ≤ a.toInt := h6
              refine s_ek_bk 1 (P := 15) (ls' := [(0, .int a)]) (st' := [.int 0]) (M' := s_M0) rfl ?_
              refine s_ek_ret (o := some (.int 0)) (fun _ => rfl) ?_
              show s_Ek (s_rows 3 L xs) 1297 s_e177.1 4 [(0, .ref 0), (1, .int a)] [.int 0] s_M0 _
              refine s_ek_bk 2 (P := 8) (ls' := [(0, .ref 0), (1, .int a)]) (st' := [.int (-1)]) (M' := s_M0) rfl ?_
              refine s_ek_ret (o := some (.int (-1))) (fun _ => rfl) ?_
              show s_Ek (s_rows 3 L xs) 1298 s_e178.1 19 [(0, .ref 0), (1, .int a), (2, .int b), (3, .int c)] [.int (-1)] s_M0 _
              refine s_ek_bk 1 (P := 23) (ls' := [(0, .ref 0), (1, .int a), (2, .int b), (3, .int c)]) (st' := [.int (-1)]) (M' := s_M0) rfl ?_
              refine s_ek_ret (o := some (.int (-1))) (fun _ => rfl) ?_
              show s_Ek (s_rows 3 L xs) 1299 s_e148.1 7 [(0, .ref 0), (1, .int a), (2, .int b), (3, .int c)] [.int (-1)] s_M0 _
              refine s_ek_bk 4 (P := 16) (ls' := [(4, .int (-1)), (0, .ref 0), (1, .int a), (2, .int b), (3, .int c)]) (st' := [.int (-1)]) (M' := s_M0) rfl ?_
              refine s_ek_ret (o := some (.int (-1))) (fun _ => rfl) ?_
              refine ⟨(-1), rfl, ?_⟩
              show s_Ek (s_rows 3 L xs) 1299 s_e249.1 0 [(0, .ref 151), (1, .int a), (2, .int b), (3, .int c)] [] s_M0 _
              refine s_ek_bk 1 (P := 1) (ls' := [(0, .ref 151), (1, .int a), (2, .int b), (3, .int c)]) (st' := [.int a]) (M' := s_M0) rfl ?_
              refine s_ek_call (ν := s_e281.1) (P := 4) (as := [.int a]) (r := []) (fun _ => rfl) rfl ?_
              show s_Ek (s_rows 3 L xs) 1298 s_e281.1 0 [(0, .int a)] [] s_M0 _
              refine s_ek_bk 3 (P := 3) (ls' := [(0, .int a)]) (st' := [.int 5, .int 0, .int a]) (M' := s_M0) rfl ?_
              refine s_ek_call (ν := s_e181.1) (P := 6) (as := [.int a, .int 0, .int 5]) (r := []) (fun _ => rfl) rfl ?_
              show s_Ek (s_rows 3 L xs) 1297 s_e181.1 0 [(0, .int a), (1, .int 0), (2, .int 5)] [] s_M0 _
              refine s_ek_bk 2 (P := 2) (ls' := [(0, .int a), (1, .int 0), (2, .int 5)]) (st' := [.int 0, .int a]) (M' := s_M0) rfl ?_
              refine s_ek_if2 (T := 14) rfl rfl (fun h7 => ?_) (fun h7 => ?_)
              · replace h7 : a.toInt < 0 := h7
                omega
              · replace h7 : ¬ (a.toInt < 0) := h7
                replace h7 : 0 ≤ a.toInt := by omega
                refine s_ek_bk 2 (P := 7) (ls' := [(0, .int a), (1, .int 0), (2, .int 5)]) (st' := [.int 5, .int a]) (M' := s_M0) rfl ?_
                refine s_ek_if2 (T := 14) rfl rfl (fun h8 => ?_) (fun h8 => ?_)
                · replace h8 : 5 < a.toInt := h8
                  refine s_ek_bk 1 (P := 15) (ls' := [(0, .int a), (1, .int 0), (2, .int 5)]) (st' := [.int 0]) (M' := s_M0) rfl ?_
                  refine s_ek_ret (o := some (.int 0)) (fun _ => rfl) ?_
                  show s_Ek (s_rows 3 L xs) 1298 s_e281.1 6 [(0, .int a)] [.int 0] s_M0 _
                  refine s_ek_ret (o := some (.int 0)) (fun _ => rfl) ?_
                  show s_Ek (s_rows 3 L xs) 1299 s_e249.1 4 [(0, .ref 151), (1, .int a), (2, .int b), (3, .int c)] [.int 0] s_M0 _
                  refine s_ek_bk 2 (P := 27) (ls' := [(0, .ref 151), (1, .int a), (2, .int b), (3, .int c)]) (st' := [.int (-1)]) (M' := s_M0) rfl ?_
                  refine s_ek_ret (o := some (.int (-1))) (fun _ => rfl) ?_
                  exact rfl
                · replace h8 : ¬ (5 < a.toInt) := h8
                  replace h8 : a.toInt ≤ 5 := by omega
                  omega
            · replace h6 : ¬ (6 ≤ a.toInt) := h6
              replace h6 : a.toInt < 6 := by omega
              refine s_ek_bk 2 (P := 15) (ls' := [(0, .int a)]) (st' := [.int 1]) (M' := s_M0) rfl ?_
              refine s_ek_ret (o := some (.int 1)) (fun _ => rfl) ?_
              show s_Ek (s_rows 3 L xs) 1297 s_e177.1 4 [(0, .ref 0), (1, .int a)] [.int 1] s_M0 _
              refine s_ek_bk 3 (P := 11) (ls' := [(0, .ref 0), (1, .int a)]) (st' := [.int a, .ref 0]) (M' := s_M0) rfl ?_
              refine s_ek_call (ν := s_e176.1) (P := 14) (as := [.ref 0, .int a]) (r := []) (fun _ => rfl) rfl ?_
              show s_Ek (s_rows 3 L xs) 1296 s_e176.1 0 [(0, .ref 0), (1, .int a)] [] s_M0 _
              refine s_ek_bk 1 (P := 1) (ls' := [(0, .ref 0), (1, .int a)]) (st' := [.int a]) (M' := s_M0) rfl ?_
              refine s_ek_if1 (T := 22) rfl rfl (fun h7 => ?_) (fun h7 => ?_)
              · replace h7 : a.toInt < 0 := h7
                omega
              · replace h7 : ¬ (a.toInt < 0) := h7
                replace h7 : 0 ≤ a.toInt := by omega
                refine s_ek_bk 4 (P := 10) (ls' := [(0, .ref 0), (1, .int a)]) (st' := [.int 6, .int a]) (M' := s_M0) rfl ?_
                refine s_ek_if2 (T := 22) rfl rfl (fun h8 => ?_) (fun h8 => ?_)
                · replace h8 : 6 ≤ a.toInt := h8
                  omega
                · replace h8 : ¬ (6 ≤ a.toInt) := h8
                  replace h8 : a.toInt < 6 := by omega
                  refine s_ek_bk 3 (P := 18) (ls' := [(0, .ref 0), (1, .int a)]) (st' := [.int a, .ref 135]) (M' := s_M0) rfl ?_
                  rcases s_rg_0_5 (a := a) (by omega) (by omega) with rfl | rfl | rfl | rfl | rfl | rfl
                  · refine s_ek_bk 6 (P := 33) (ls' := [(0, .ref 0), (1, .int 0)]) (st' := [.ref 139]) (M' := s_M0) rfl ?_
                    refine s_ek_ret (o := some (.ref 139)) (fun _ => rfl) ?_
                    show s_Ek (s_rows 3 L xs) 1297 s_e177.1 14 [(0, .ref 0), (1, .int 0)] [.ref 139] s_M0 _
                    refine s_ek_bk 2 (P := 16) (ls' := [(2, .ref 139), (0, .ref 0), (1, .int 0)]) (st' := [.ref 139]) (M' := s_M0) rfl ?_
                    refine s_ek_call (ν := s_e84.1) (P := 19) (as := [.ref 139]) (r := []) (fun _ => rfl) rfl ?_
                    show s_Ek (s_rows 3 L xs) 1296 s_e84.1 0 [(0, .ref 139)] [] s_M0 _
                    refine s_ek_bk 6 (P := 13) (ls' := [(0, .ref 139)]) (st' := [.int 1]) (M' := s_M0) rfl ?_
                    refine s_ek_ret (o := some (.int 1)) (fun _ => rfl) ?_
                    show s_Ek (s_rows 3 L xs) 1297 s_e177.1 19 [(2, .ref 139), (0, .ref 0), (1, .int 0)] [.int 1] s_M0 _
                    refine s_ek_bk 2 (P := 24) (ls' := [(2, .ref 139), (0, .ref 0), (1, .int 0)]) (st' := [.int (-11)]) (M' := s_M0) rfl ?_
                    refine s_ek_ret (o := some (.int (-11))) (fun _ => rfl) ?_
                    show s_Ek (s_rows 3 L xs) 1298 s_e178.1 19 [(0, .ref 0), (1, .int 0), (2, .int b), (3, .int c)] [.int (-11)] s_M0 _
                    refine s_ek_bk 1 (P := 23) (ls' := [(0, .ref 0), (1, .int 0), (2, .int b), (3, .int c)]) (st' := [.int (-11)]) (M' := s_M0) rfl ?_
                    refine s_ek_ret (o := some (.int (-11))) (fun _ => rfl) ?_
                    show s_Ek (s_rows 3 L xs) 1299 s_e148.1 7 [(0, .ref 0), (1, .int 0), (2, .int b), (3, .int c)] [.int (-11)] s_M0 _
                    refine s_ek_bk 4 (P := 16) (ls' := [(4, .int (-11)), (0, .ref 0), (1, .int 0), (2, .int b), (3, .int c)]) (st' := [.int (-11)]) (M' := s_M0) rfl ?_
                    refine s_ek_ret (o := some (.int (-11))) (fun _ => rfl) ?_
                    refine ⟨(-11), rfl, ?_⟩
                    show s_Ek (s_rows 3 L xs) 1299 s_e249.1 0 [(0, .ref 151), (1, .int 0), (2, .int b), (3, .int c)] [] s_M0 _
                    refine s_ek_bk 1 (P := 1) (ls' := [(0, .ref 151), (1, .int 0), (2, .int b), (3, .int c)]) (st' := [.int 0]) (M' := s_M0) rfl ?_
                    refine s_ek_call (ν := s_e281.1) (P := 4) (as := [.int 0]) (r := []) (fun _ => rfl) rfl ?_
                    show s_Ek (s_rows 3 L xs) 1298 s_e281.1 0 [(0, .int 0)] [] s_M0 _
                    refine s_ek_bk 3 (P := 3) (ls' := [(0, .int 0)]) (st' := [.int 5, .int 0, .int 0]) (M' := s_M0) rfl ?_
                    refine s_ek_call (ν := s_e181.1) (P := 6) (as := [.int 0, .int 0, .int 5]) (r := []) (fun _ => rfl) rfl ?_
                    show s_Ek (s_rows 3 L xs) 1297 s_e181.1 0 [(0, .int 0), (1, .int 0), (2, .int 5)] [] s_M0 _
                    refine s_ek_bk 8 (P := 15) (ls' := [(0, .int 0), (1, .int 0), (2, .int 5)]) (st' := [.int 1]) (M' := s_M0) rfl ?_
                    refine s_ek_ret (o := some (.int 1)) (fun _ => rfl) ?_
                    show s_Ek (s_rows 3 L xs) 1298 s_e281.1 6 [(0, .int 0)] [.int 1] s_M0 _
                    refine s_ek_ret (o := some (.int 1)) (fun _ => rfl) ?_
                    show s_Ek (s_rows 3 L xs) 1299 s_e249.1 4 [(0, .ref 151), (1, .int 0), (2, .int b), (3, .int c)] [.int 1] s_M0 _
                    refine s_ek_bk 4 (P := 11) (ls' := [(0, .ref 151), (1, .int 0), (2, .int b), (3, .int c)]) (st' := [.int 99, .int 0, .int b]) (M' := s_M0) rfl ?_
                    refine s_ek_call (ν := s_e181.1) (P := 14) (as := [.int b, .int 0, .int 99]) (r := []) (fun _ => rfl) rfl ?_
                    show s_Ek (s_rows 3 L xs) 1298 s_e181.1 0 [(0, .int b), (1, .int 0), (2, .int 99)] [] s_M0 _
                    refine s_ek_bk 2 (P := 2) (ls' := [(0, .int b), (1, .int 0), (2, .int 99)]) (st' := [.int 0, .int b]) (M' := s_M0) rfl ?_
                    refine s_ek_if2 (T := 14) rfl rfl (fun h9 => ?_) (fun h9 => ?_)
                    · replace h9 : b.toInt < 0 := h9
                      omega
                    · replace h9 : ¬ (b.toInt < 0) := h9
                      replace h9 : 0 ≤ b.toInt := by omega
                      refine s_ek_bk 2 (P := 7) (ls' := [(0, .int b), (1, .int 0), (2, .int 99)]) (st' := [.int 99, .int b]) (M' := s_M0) rfl ?_
                      refine s_ek_if2 (T := 14) rfl rfl (fun h10 => ?_) (fun h10 => ?_)
                      · replace h10 : 99 < b.toInt := h10
                        omega
                      · replace h10 : ¬ (99 < b.toInt) := h10
                        replace h10 : b.toInt ≤ 99 := by omega
                        refine s_ek_bk 2 (P := 15) (ls' := [(0, .int b), (1, .int 0), (2, .int 99)]) (st' := [.int 1]) (M' := s_M0) rfl ?_
                        refine s_ek_ret (o := some (.int 1)) (fun _ => rfl) ?_
                        show s_Ek (s_rows 3 L xs) 1299 s_e249.1 14 [(0, .ref 151), (1, .int 0), (2, .int b), (3, .int c)] [.int 1] s_M0 _
                        refine s_ek_bk 4 (P := 20) (ls' := [(0, .ref 151), (1, .int 0), (2, .int b), (3, .int c)]) (st' := [.int 2, .int 0, .int c]) (M' := s_M0) rfl ?_
                        refine s_ek_call (ν := s_e181.1) (P := 23) (as := [.int c, .int 0, .int 2]) (r := []) (fun _ => rfl) rfl ?_
                        show s_Ek (s_rows 3 L xs) 1298 s_e181.1 0 [(0, .int c), (1, .int 0), (2, .int 2)] [] s_M0 _
                        refine s_ek_bk 2 (P := 2) (ls' := [(0, .int c), (1, .int 0), (2, .int 2)]) (st' := [.int 0, .int c]) (M' := s_M0) rfl ?_
                        refine s_ek_if2 (T := 14) rfl rfl (fun h11 => ?_) (fun h11 => ?_)
                        · replace h11 : c.toInt < 0 := h11
                          omega
                        · replace h11 : ¬ (c.toInt < 0) := h11
                          replace h11 : 0 ≤ c.toInt := by omega
                          refine s_ek_bk 2 (P := 7) (ls' := [(0, .int c), (1, .int 0), (2, .int 2)]) (st' := [.int 2, .int c]) (M' := s_M0) rfl ?_
                          refine s_ek_if2 (T := 14) rfl rfl (fun h12 => ?_) (fun h12 => ?_)
                          · replace h12 : 2 < c.toInt := h12
                            omega
                          · replace h12 : ¬ (2 < c.toInt) := h12
                            replace h12 : c.toInt ≤ 2 := by omega
                            refine s_ek_bk 2 (P := 15) (ls' := [(0, .int c), (1, .int 0), (2, .int 2)]) (st' := [.int 1]) (M' := s_M0) rfl ?_
                            refine s_ek_ret (o := some (.int 1)) (fun _ => rfl) ?_
                            show s_Ek (s_rows 3 L xs) 1299 s_e249.1 23 [(0, .ref 151), (1, .int 0), (2, .int b), (3, .int c)] [.int 1] s_M0 _
                            refine s_ek_bk 3 (P := 30) (ls' := [(0, .ref 151), (1, .int 0), (2, .int b), (3, .int c)]) (st' := [.int 0, .ref 151]) (M' := s_M0) rfl ?_
                            refine s_ek_call (ν := s_e236.1) (P := 33) (as := [.ref 151, .int 0]) (r := []) (fun _ => rfl) rfl ?_
                            show s_Ek (s_rows 3 L xs) 1298 s_e236.1 0 [(0, .ref 151), (1, .int 0)] [] s_M0 _
                            refine s_ek_bk 8 (P := 32) (ls' := [(0, .ref 151), (1, .int 0)]) (st' := [.int (-11)]) (M' := s_M0) rfl ?_
                            refine s_ek_ret (o := some (.int (-11))) (fun _ => rfl) ?_
                            show s_Ek (s_rows 3 L xs) 1299 s_e249.1 33 [(0, .ref 151), (1, .int 0), (2, .int b), (3, .int c)] [.int (-11)] s_M0 _
                            refine s_ek_bk 3 (P := 38) (ls' := [(0, .ref 151), (1, .int 0), (2, .int b), (3, .int c)]) (st' := [.int 0, .ref 151]) (M' := s_M0) rfl ?_
                            refine s_ek_call (ν := s_e236.1) (P := 41) (as := [.ref 151, .int 0]) (r := []) (fun _ => rfl) rfl ?_
                            show s_Ek (s_rows 3 L xs) 1298 s_e236.1 0 [(0, .ref 151), (1, .int 0)] [] s_M0 _
                            refine s_ek_bk 8 (P := 32) (ls' := [(0, .ref 151), (1, .int 0)]) (st' := [.int (-11)]) (M' := s_M0) rfl ?_
                            refine s_ek_ret (o := some (.int (-11))) (fun _ => rfl) ?_
                            show s_Ek (s_rows 3 L xs) 1299 s_e249.1 41 [(0, .ref 151), (1, .int 0), (2, .int b), (3, .int c)] [.int (-11)] s_M0 _
                            refine s_ek_ret (o := some (.int (-11))) (fun _ => rfl) ?_
                            exact rfl
                  · refine s_ek_bk 6 (P := 33) (ls' := [(0, .ref 0), (1, .int 1)]) (st' := [.ref 141]) (M' := s_M0) rfl ?_
                    refine s_ek_ret (o := some (.ref 141)) (fun _ => rfl) ?_
                    show s_Ek (s_rows 3 L xs) 1297 s_e177.1 14 [(0, .ref 0), (1, .int 1)] [.ref 141] s_M0 _
                    refine s_ek_bk 2 (P := 16) (ls' := [(2, .ref 141), (0, .ref 0), (1, .int 1)]) (st' := [.ref 141]) (M' := s_M0) rfl ?_
                    refine s_ek_call (ν := s_e84.1) (P := 19) (as := [.ref 141]) (r := []) (fun _ => rfl) rfl ?_
                    show s_Ek (s_rows 3 L xs) 1296 s_e84.1 0 [(0, .ref 141)] [] s_M0 _
                    refine s_ek_bk 6 (P := 13) (ls' := [(0, .ref 141)]) (st' := [.int 1]) (M' := s_M0) rfl ?_
                    refine s_ek_ret (o := some (.int 1)) (fun _ => rfl) ?_
                    show s_Ek (s_rows 3 L xs) 1297 s_e177.1 19 [(2, .ref 141), (0, .ref 0), (1, .int 1)] [.int 1] s_M0 _
                    refine s_ek_bk 2 (P := 24) (ls' := [(2, .ref 141), (0, .ref 0), (1, .int 1)]) (st' := [.int (-11)]) (M' := s_M0) rfl ?_
                    refine s_ek_ret (o := some (.int (-11))) (fun _ => rfl) ?_
                    show s_Ek (s_rows 3 L xs) 1298 s_e178.1 19 [(0, .ref 0), (1, .int 1), (2, .int b), (3, .int c)] [.int (-11)] s_M0 _
                    refine s_ek_bk 1 (P := 23) (ls' := [(0, .ref 0), (1, .int 1), (2, .int b), (3, .int c)]) (st' := [.int (-11)]) (M' := s_M0) rfl ?_
                    refine s_ek_ret (o := some (.int (-11))) (fun _ => rfl) ?_
                    show s_Ek (s_rows 3 L xs) 1299 s_e148.1 7 [(0, .ref 0), (1, .int 1), (2, .int b), (3, .int c)] [.int (-11)] s_M0 _
                    refine s_ek_bk 4 (P := 16) (ls' := [(4, .int (-11)), (0, .ref 0), (1, .int 1), (2, .int b), (3, .int c)]) (st' := [.int (-11)]) (M' := s_M0) rfl ?_
                    refine s_ek_ret (o := some (.int (-11))) (fun _ => rfl) ?_
                    refine ⟨(-11), rfl, ?_⟩
                    show s_Ek (s_rows 3 L xs) 1299 s_e249.1 0 [(0, .ref 151), (1, .int 1), (2, .int b), (3, .int c)] [] s_M0 _
                    refine s_ek_bk 1 (P := 1) (ls' := [(0, .ref 151), (1, .int 1), (2, .int b), (3, .int c)]) (st' := [.int 1]) (M' := s_M0) rfl ?_
                    refine s_ek_call (ν := s_e281.1) (P := 4) (as := [.int 1]) (r := []) (fun _ => rfl) rfl ?_
                    show s_Ek (s_rows 3 L xs) 1298 s_e281.1 0 [(0, .int 1)] [] s_M0 _
                    refine s_ek_bk 3 (P := 3) (ls' := [(0, .int 1)]) (st' := [.int 5, .int 0, .int 1]) (M' := s_M0) rfl ?_
                    refine s_ek_call (ν := s_e181.1) (P := 6) (as := [.int 1, .int 0, .int 5]) (r := []) (fun _ => rfl) rfl ?_
                    show s_Ek (s_rows 3 L xs) 1297 s_e181.1 0 [(0, .int 1), (1, .int 0), (2, .int 5)] [] s_M0 _
                    refine s_ek_bk 8 (P := 15) (ls' := [(0, .int 1), (1, .int 0), (2, .int 5)]) (st' := [.int 1]) (M' := s_M0) rfl ?_
                    refine s_ek_ret (o := some (.int 1)) (fun _ => rfl) ?_
                    show s_Ek (s_rows 3 L xs) 1298 s_e281.1 6 [(0, .int 1)] [.int 1] s_M0 _
                    refine s_ek_ret (o := some (.int 1)) (fun _ => rfl) ?_
                    show s_Ek (s_rows 3 L xs) 1299 s_e249.1 4 [(0, .ref 151), (1, .int 1), (2, .int b), (3, .int c)] [.int 1] s_M0 _
                    refine s_ek_bk 4 (P := 11) (ls' := [(0, .ref 151), (1, .int 1), (2, .int b), (3, .int c)]) (st' := [.int 99, .int 0, .int b]) (M' := s_M0) rfl ?_
                    refine s_ek_call (ν := s_e181.1) (P := 14) (as := [.int b, .int 0, .int 99]) (r := []) (fun _ => rfl) rfl ?_
                    show s_Ek (s_rows 3 L xs) 1298 s_e181.1 0 [(0, .int b), (1, .int 0), (2, .int 99)] [] s_M0 _
                    refine s_ek_bk 2 (P := 2) (ls' := [(0, .int b), (1, .int 0), (2, .int 99)]) (st' := [.int 0, .int b]) (M' := s_M0) rfl ?_
                    refine s_ek_if2 (T := 14) rfl rfl (fun h9 => ?_) (fun h9 => ?_)
                    · replace h9 : b.toInt < 0 := h9
                      omega
                    · replace h9 : ¬ (b.toInt < 0) := h9
                      replace h9 : 0 ≤ b.toInt := by omega
                      refine s_ek_bk 2 (P := 7) (ls' := [(0, .int b), (1, .int 0), (2, .int 99)]) (st' := [.int 99, .int b]) (M' := s_M0) rfl ?_
                      refine s_ek_if2 (T := 14) rfl rfl (fun h10 => ?_) (fun h10 => ?_)
                      · replace h10 : 99 < b.toInt := h10
                        omega
                      · replace h10 : ¬ (99 < b.toInt) := h10
                        replace h10 : b.toInt ≤ 99 := by omega
                        refine s_ek_bk 2 (P := 15) (ls' := [(0, .int b), (1, .int 0), (2, .int 99)]) (st' := [.int 1]) (M' := s_M0) rfl ?_
                        refine s_ek_ret (o := some (.int 1)) (fun _ => rfl) ?_
                        show s_Ek (s_rows 3 L xs) 1299 s_e249.1 14 [(0, .ref 151), (1, .int 1), (2, .int b), (3, .int c)] [.int 1] s_M0 _
                        refine s_ek_bk 4 (P := 20) (ls' := [(0, .ref 151), (1, .int 1), (2, .int b), (3, .int c)]) (st' := [.int 2, .int 0, .int c]) (M' := s_M0) rfl ?_
                        refine s_ek_call (ν := s_e181.1) (P := 23) (as := [.int c, .int 0, .int 2]) (r := []) (fun _ => rfl) rfl ?_
                        show s_Ek (s_rows 3 L xs) 1298 s_e181.1 0 [(0, .int c), (1, .int 0), (2, .int 2)] [] s_M0 _
                        refine s_ek_bk 2 (P := 2) (ls' := [(0, .int c), (1, .int 0), (2, .int 2)]) (st' := [.int 0, .int c]) (M' := s_M0) rfl ?_
                        refine s_ek_if2 (T := 14) rfl rfl (fun h11 => ?_) (fun h11 => ?_)
                        · replace h11 : c.toInt < 0 := h11
                          omega
                        · replace h11 : ¬ (c.toInt < 0) := h11
                          replace h11 : 0 ≤ c.toInt := by omega
                          refine s_ek_bk 2 (P := 7) (ls' := [(0, .int c), (1, .int 0), (2, .int 2)]) (st' := [.int 2, .int c]) (M' := s_M0) rfl ?_
                          refine s_ek_if2 (T := 14) rfl rfl (fun h12 => ?_) (fun h12 => ?_)
                          · replace h12 : 2 < c.toInt := h12
                            omega
                          · replace h12 : ¬ (2 < c.toInt) := h12
                            replace h12 : c.toInt ≤ 2 := by omega
                            refine s_ek_bk 2 (P := 15) (ls' := [(0, .int c), (1, .int 0), (2, .int 2)]) (st' := [.int 1]) (M' := s_M0) rfl ?_
                            refine s_ek_ret (o := some (.int 1)) (fun _ => rfl) ?_
                            show s_Ek (s_rows 3 L xs) 1299 s_e249.1 23 [(0, .ref 151), (1, .int 1), (2, .int b), (3, .int c)] [.int 1] s_M0 _
                            refine s_ek_bk 3 (P := 30) (ls' := [(0, .ref 151), (1, .int 1), (2, .int b), (3, .int c)]) (st' := [.int 1, .ref 151]) (M' := s_M0) rfl ?_
                            refine s_ek_call (ν := s_e236.1) (P := 33) (as := [.ref 151, .int 1]) (r := []) (fun _ => rfl) rfl ?_
                            show s_Ek (s_rows 3 L xs) 1298 s_e236.1 0 [(0, .ref 151), (1, .int 1)] [] s_M0 _
                            refine s_ek_bk 8 (P := 32) (ls' := [(0, .ref 151), (1, .int 1)]) (st' := [.int (-11)]) (M' := s_M0) rfl ?_
                            refine s_ek_ret (o := some (.int (-11))) (fun _ => rfl) ?_
                            show s_Ek (s_rows 3 L xs) 1299 s_e249.1 33 [(0, .ref 151), (1, .int 1), (2, .int b), (3, .int c)] [.int (-11)] s_M0 _
                            refine s_ek_bk 3 (P := 38) (ls' := [(0, .ref 151), (1, .int 1), (2, .int b), (3, .int c)]) (st' := [.int 1, .ref 151]) (M' := s_M0) rfl ?_
                            refine s_ek_call (ν := s_e236.1) (P := 41) (as := [.ref 151, .int 1]) (r := []) (fun _ => rfl) rfl ?_
                            show s_Ek (s_rows 3 L xs) 1298 s_e236.1 0 [(0, .ref 151), (1, .int 1)] [] s_M0 _
                            refine s_ek_bk 8 (P := 32) (ls' := [(0, .ref 151), (1, .int 1)]) (st' := [.int (-11)]) (M' := s_M0) rfl ?_
                            refine s_ek_ret (o := some (.int (-11))) (fun _ => rfl) ?_
                            show s_Ek (s_rows 3 L xs) 1299 s_e249.1 41 [(0, .ref 151), (1, .int 1), (2, .int b), (3, .int c)] [.int (-11)] s_M0 _
                            refine s_ek_ret (o := some (.int (-11))) (fun _ => rfl) ?_
                            exact rfl
                  · refine s_ek_bk 6 (P := 33) (ls' := [(0, .ref 0), (1, .int 2)]) (st' := [.ref 143]) (M' := s_M0) rfl ?_
                    refine s_ek_ret (o := some (.ref 143)) (fun _ => rfl) ?_
                    show s_Ek (s_rows 3 L xs) 1297 s_e177.1 14 [(0, .ref 0), (1, .int 2)] [.ref 143] s_M0 _
                    refine s_ek_bk 2 (P := 16) (ls' := [(2, .ref 143), (0, .ref 0), (1, .int 2)]) (st' := [.ref 143]) (M' := s_M0) rfl ?_
                    refine s_ek_call (ν := s_e84.1) (P := 19) (as := [.ref 143]) (r := []) (fun _ => rfl) rfl ?_
                    show s_Ek (s_rows 3 L xs) 1296 s_e84.1 0 [(0, .ref 143)] [] s_M0 _
                    refine s_ek_bk 6 (P := 13) (ls' := [(0, .ref 143)]) (st' := [.int 1]) (M' := s_M0) rfl ?_
                    refine s_ek_ret (o := some (.int 1)) (fun _ => rfl) ?_
                    show s_Ek (s_rows 3 L xs) 1297 s_e177.1 19 [(2, .ref 143), (0, .ref 0), (1, .int 2)] [.int 1] s_M0 _
                    refine s_ek_bk 2 (P := 24) (ls' := [(2, .ref 143), (0, .ref 0), (1, .int 2)]) (st' := [.int (-11)]) (M' := s_M0) rfl ?_
                    refine s_ek_ret (o := some (.int (-11))) (fun _ => rfl) ?_
                    show s_Ek (s_rows 3 L xs) 1298 s_e178.1 19 [(0, .ref 0), (1, .int 2), (2, .int b), (3, .int c)] [.int (-11)] s_M0 _
                    refine s_ek_bk 1 (P := 23) (ls' := [(0, .ref 0), (1, .int 2), (2, .int b), (3, .int c)]) (st' := [.int (-11)]) (M' := s_M0) rfl ?_
                    refine s_ek_ret (o := some (.int (-11))) (fun _ => rfl) ?_
                    show s_Ek (s_rows 3 L xs) 1299 s_e148.1 7 [(0, .ref 0), (1, .int 2), (2, .int b), (3, .int c)] [.int (-11)] s_M0 _
                    refine s_ek_bk 4 (P := 16) (ls' := [(4, .int (-11)), (0, .ref 0), (1, .int 2), (2, .int b), (3, .int c)]) (st' := [.int (-11)]) (M' := s_M0) rfl ?_
                    refine s_ek_ret (o := some (.int (-11))) (fun _ => rfl) ?_
                    refine ⟨(-11), rfl, ?_⟩
                    show s_Ek (s_rows 3 L xs) 1299 s_e249.1 0 [(0, .ref 151), (1, .int 2), (2, .int b), (3, .int c)] [] s_M0 _
                    refine s_ek_bk 1 (P := 1) (ls' := [(0, .ref 151), (1, .int 2), (2, .int b), (3, .int c)]) (st' := [.int 2]) (M' := s_M0) rfl ?_
                    refine s_ek_call (ν := s_e281.1) (P := 4) (as := [.int 2]) (r := []) (fun _ => rfl) rfl ?_
                    show s_Ek (s_rows 3 L xs) 1298 s_e281.1 0 [(0, .int 2)] [] s_M0 _
                    refine s_ek_bk 3 (P := 3) (ls' := [(0, .int 2)]) (st' := [.int 5, .int 0, .int 2]) (M' := s_M0) rfl ?_
                    refine s_ek_call (ν := s_e181.1) (P := 6) (as := [.int 2, .int 0, .int 5]) (r := []) (fun _ => rfl) rfl ?_
                    show s_Ek (s_rows 3 L xs) 1297 s_e181.1 0 [(0, .int 2), (1, .int 0), (2, .int 5)] [] s_M0 _
                    refine s_ek_bk 8 (P := 15) (ls' := [(0, .int 2), (1, .int 0), (2, .int 5)]) (st' := [.int 1]) (M' := s_M0) rfl ?_
                    refine s_ek_ret (o := some (.int 1)) (fun _ => rfl) ?_
                    show s_Ek (s_rows 3 L xs) 1298 s_e281.1 6 [(0, .int 2)] [.int 1] s_M0 _
                    refine s_ek_ret (o := some (.int 1)) (fun _ => rfl) ?_
                    show s_Ek (s_rows 3 L xs) 1299 s_e249.1 4 [(0, .ref 151), (1, .int 2), (2, .int b), (3, .int c)] [.int 1] s_M0 _
                    refine s_ek_bk 4 (P := 11) (ls' := [(0, .ref 151), (1, .int 2), (2, .int b), (3, .int c)]) (st' := [.int 99, .int 0, .int b]) (M' := s_M0) rfl ?_
                    refine s_ek_call (ν := s_e181.1) (P := 14) (as := [.int b, .int 0, .int 99]) (r := []) (fun _ => rfl) rfl ?_
                    show s_Ek (s_rows 3 L xs) 1298 s_e181.1 0 [(0, .int b), (1, .int 0), (2, .int 99)] [] s_M0 _
                    refine s_ek_bk 2 (P := 2) (ls' := [(0, .int b), (1, .int 0), (2, .int 99)]) (st' := [.int 0, .int b]) (M' := s_M0) rfl ?_
                    refine s_ek_if2 (T := 14) rfl rfl (fun h9 => ?_) (fun h9 => ?_)
                    · replace h9 : b.toInt < 0 := h9
                      omega
                    · replace h9 : ¬ (b.toInt < 0) := h9
                      replace h9 : 0 ≤ b.toInt := by omega
                      refine s_ek_bk 2 (P := 7) (ls' := [(0, .int b), (1, .int 0), (2, .int 99)]) (st' := [.int 99, .int b]) (M' := s_M0) rfl ?_
                      refine s_ek_if2 (T := 14) rfl rfl (fun h10 => ?_) (fun h10 => ?_)
                      · replace h10 : 99 < b.toInt := h10
                        omega
                      · replace h10 : ¬ (99 < b.toInt) := h10
                        replace h10 : b.toInt ≤ 99 := by omega
                        refine s_ek_bk 2 (P := 15) (ls' := [(0, .int b), (1, .int 0), (2, .int 99)]) (st' := [.int 1]) (M' := s_M0) rfl ?_
                        refine s_ek_ret (o := some (.int 1)) (fun _ => rfl) ?_
                        show s_Ek (s_rows 3 L xs) 1299 s_e249.1 14 [(0, .ref 151), (1, .int 2), (2, .int b), (3, .int c)] [.int 1] s_M0 _
                        refine s_ek_bk 4 (P := 20) (ls' := [(0, .ref 151), (1, .int 2), (2, .int b), (3, .int c)]) (st' := [.int 2, .int 0, .int c]) (M' := s_M0) rfl ?_
                        refine s_ek_call (ν := s_e181.1) (P := 23) (as := [.int c, .int 0, .int 2]) (r := []) (fun _ => rfl) rfl ?_
                        show s_Ek (s_rows 3 L xs) 1298 s_e181.1 0 [(0, .int c), (1, .int 0), (2, .int 2)] [] s_M0 _
                        refine s_ek_bk 2 (P := 2) (ls' := [(0, .int c), (1, .int 0), (2, .int 2)]) (st' := [.int 0, .int c]) (M' := s_M0) rfl ?_
                        refine s_ek_if2 (T := 14) rfl rfl (fun h11 => ?_) (fun h11 => ?_)
                        · replace h11 : c.toInt < 0 := h11
                          omega
                        · replace h11 : ¬ (c.toInt < 0) := h11
                          replace h11 : 0 ≤ c.toInt := by omega
                          refine s_ek_bk 2 (P := 7) (ls' := [(0, .int c), (1, .int 0), (2, .int 2)]) (st' := [.int 2, .int c]) (M' := s_M0) rfl ?_
                          refine s_ek_if2 (T := 14) rfl rfl (fun h12 => ?_) (fun h12 => ?_)
                          · replace h12 : 2 < c.toInt := h12
                            omega
                          · replace h12 : ¬ (2 < c.toInt) := h12
                            replace h12 : c.toInt ≤ 2 := by omega
                            refine s_ek_bk 2 (P := 15) (ls' := [(0, .int c), (1, .int 0), (2, .int 2)]) (st' := [.int 1]) (M' := s_M0) rfl ?_
                            refine s_ek_ret (o := some (.int 1)) (fun _ => rfl) ?_
                            show s_Ek (s_rows 3 L xs) 1299 s_e249.1 23 [(0, .ref 151), (1, .int 2), (2, .int b), (3, .int c)] [.int 1] s_M0 _
                            refine s_ek_bk 3 (P := 30) (ls' := [(0, .ref 151), (1, .int 2), (2, .int b), (3, .int c)]) (st' := [.int 2, .ref 151]) (M' := s_M0) rfl ?_
                            refine s_ek_call (ν := s_e236.1) (P := 33) (as := [.ref 151, .int 2]) (r := []) (fun _ => rfl) rfl ?_
                            show s_Ek (s_rows 3 L xs) 1298 s_e236.1 0 [(0, .ref 151), (1, .int 2)] [] s_M0 _
                            refine s_ek_bk 8 (P := 32) (ls' := [(0, .ref 151), (1, .int 2)]) (st' := [.int (-11)]) (M' := s_M0) rfl ?_
                            refine s_ek_ret (o := some (.int (-11))) (fun _ => rfl) ?_
                            show s_Ek (s_rows 3 L xs) 1299 s_e249.1 33 [(0, .ref 151), (1, .int 2), (2, .int b), (3, .int c)] [.int (-11)] s_M0 _
                            refine s_ek_bk 3 (P := 38) (ls' := [(0, .ref 151), (1, .int 2), (2, .int b), (3, .int c)]) (st' := [.int 2, .ref 151]) (M' := s_M0) rfl ?_
                            refine s_ek_call (ν := s_e236.1) (P := 41) (as := [.ref 151, .int 2]) (r := []) (fun _ => rfl) rfl ?_
                            show s_Ek (s_rows 3 L xs) 1298 s_e236.1 0 [(0, .ref 151), (1, .int 2)] [] s_M0 _
                            refine s_ek_bk 8 (P := 32) (ls' := [(0, .ref 151), (1, .int 2)]) (st' := [.int (-11)]) (M' := s_M0) rfl ?_
                            refine s_ek_ret (o := some (.int (-11))) (fun _ => rfl) ?_
                            show s_Ek (s_rows 3 L xs) 1299 s_e249.1 41 [(0, .ref 151), (1, .int 2), (2, .int b), (3, .int c)] [.int (-11)] s_M0 _
                            refine s_ek_ret (o := some (.int (-11))) (fun _ => rfl) ?_
                            exact rfl
                  · refine s_ek_bk 6 (P := 33) (ls' := [(0, .ref 0), (1, .int 3)]) (st' := [.ref 145]) (M' := s_M0) rfl ?_
                    refine s_ek_ret (o := some (.ref 145)) (fun _ => rfl) ?_
                    show s_Ek (s_rows 3 L xs) 1297 s_e177.1 14 [(0, .ref 0), (1, .int 3)] [.ref 145] s_M0 _
                    refine s_ek_bk 2 (P := 16) (ls' := [(2, .ref 145), (0, .ref 0), (1, .int 3)]) (st' := [.ref 145]) (M' := s_M0) rfl ?_
                    refine s_ek_call (ν := s_e84.1) (P := 19) (as := [.ref 145]) (r := []) (fun _ => rfl) rfl ?_
                    show s_Ek (s_rows 3 L xs) 1296 s_e84.1 0 [(0, .ref 145)] [] s_M0 _
                    refine s_ek_bk 6 (P := 13) (ls' := [(0, .ref 145)]) (st' := [.int 1]) (M' := s_M0) rfl ?_
                    refine s_ek_ret (o := some (.int 1)) (fun _ => rfl) ?_
                    show s_Ek (s_rows 3 L xs) 1297 s_e177.1 19 [(2, .ref 145), (0, .ref 0), (1, .int 3)] [.int 1] s_M0 _
                    refine s_ek_bk 2 (P := 24) (ls' := [(2, .ref 145), (0, .ref 0), (1, .int 3)]) (st' := [.int (-11)]) (M' := s_M0) rfl ?_
                    refine s_ek_ret (o := some (.int (-11))) (fun _ => rfl) ?_
                    show s_Ek (s_rows 3 L xs) 1298 s_e178.1 19 [(0, .ref 0), (1, .int 3), (2, .int b), (3, .int c)] [.int (-11)] s_M0 _
                    refine s_ek_bk 1 (P := 23) (ls' := [(0, .ref 0), (1, .int 3), (2, .int b), (3, .int c)]) (st' := [.int (-11)]) (M' := s_M0) rfl ?_
                    refine s_ek_ret (o := some (.int (-11))) (fun _ => rfl) ?_
                    show s_Ek (s_rows 3 L xs) 1299 s_e148.1 7 [(0, .ref 0), (1, .int 3), (2, .int b), (3, .int c)] [.int (-11)] s_M0 _
                    refine s_ek_bk 4 (P := 16) (ls' := [(4, .int (-11)), (0, .ref 0), (1, .int 3), (2, .int b), (3, .int c)]) (st' := [.int (-11)]) (M' := s_M0) rfl ?_
                    refine s_ek_ret (o := some (.int (-11))) (fun _ => rfl) ?_
                    refine ⟨(-11), rfl, ?_⟩
                    show s_Ek (s_rows 3 L xs) 1299 s_e249.1 0 [(0, .ref 151), (1, .int 3), (2, .int b), (3, .int c)] [] s_M0 _
                    refine s_ek_bk 1 (P := 1) (ls' := [(0, .ref 151), (1, .int 3), (2, .int b), (3, .int c)]) (st' := [.int 3]) (M' := s_M0) rfl ?_
                    refine s_ek_call (ν := s_e281.1) (P := 4) (as := [.int 3]) (r := []) (fun _ => rfl) rfl ?_
                    show s_Ek (s_rows 3 L xs) 1298 s_e281.1 0 [(0, .int 3)] [] s_M0 _
                    refine s_ek_bk 3 (P := 3) (ls' := [(0, .int 3)]) (st' := [.int 5, .int 0, .int 3]) (M' := s_M0) rfl ?_
                    refine s_ek_call (ν := s_e181.1) (P := 6) (as := [.int 3, .int 0, .int 5]) (r := []) (fun _ => rfl) rfl ?_
                    show s_Ek (s_rows 3 L xs) 1297 s_e181.1 0 [(0, .int 3), (1, .int 0), (2, .int 5)] [] s_M0 _
                    refine s_ek_bk 8 (P := 15) (ls' := [(0, .int 3), (1, .int 0), (2, .int 5)]) (st' := [.int 1]) (M' := s_M0) rfl ?_
                    refine s_ek_ret (o := some (.int 1)) (fun _ => rfl) ?_
                    show s_Ek (s_rows 3 L xs) 1298 s_e281.1 6 [(0, .int 3)] [.int 1] s_M0 _
                    refine s_ek_ret (o := some (.int 1)) (fun _ => rfl) ?_
                    show s_Ek (s_rows 3 L xs) 1299 s_e249.1 4 [(0, .ref 151), (1, .int 3), (2, .int b), (3, .int c)] [.int 1] s_M0 _
                    refine s_ek_bk 4 (P := 11) (ls' := [(0, .ref 151), (1, .int 3), (2, .int b), (3, .int c)]) (st' := [.int 99, .int 0, .int b]) (M' := s_M0) rfl ?_
                    refine s_ek_call (ν := s_e181.1) (P := 14) (as := [.int b, .int 0, .int 99]) (r := []) (fun _ => rfl) rfl ?_
                    show s_Ek (s_rows 3 L xs) 1298 s_e181.1 0 [(0, .int b), (1, .int 0), (2, .int 99)] [] s_M0 _
                    refine s_ek_bk 2 (P := 2) (ls' := [(0, .int b), (1, .int 0), (2, .int 99)]) (st' := [.int 0, .int b]) (M' := s_M0) rfl ?_
                    refine s_ek_if2 (T := 14) rfl rfl (fun h9 => ?_) (fun h9 => ?_)
                    · replace h9 : b.toInt < 0 := h9
                      omega
                    · replace h9 : ¬ (b.toInt < 0) := h9
                      replace h9 : 0 ≤ b.toInt := by omega
                      refine s_ek_bk 2 (P := 7) (ls' := [(0, .int b), (1, .int 0), (2, .int 99)]) (st' := [.int 99, .int b]) (M' := s_M0) rfl ?_
                      refine s_ek_if2 (T := 14) rfl rfl (fun h10 => ?_) (fun h10 => ?_)
                      · replace h10 : 99 < b.toInt := h10
                        omega
                      · replace h10 : ¬ (99 < b.toInt) := h10
                        replace h10 : b.toInt ≤ 99 := by omega
                        refine s_ek_bk 2 (P := 15) (ls' := [(0, .int b), (1, .int 0), (2, .int 99)]) (st' := [.int 1]) (M' := s_M0) rfl ?_
                        refine s_ek_ret (o := some (.int 1)) (fun _ => rfl) ?_
                        show s_Ek (s_rows 3 L xs) 1299 s_e249.1 14 [(0, .ref 151), (1, .int 3), (2, .int b), (3, .int c)] [.int 1] s_M0 _
                        refine s_ek_bk 4 (P := 20) (ls' := [(0, .ref 151), (1, .int 3), (2, .int b), (3, .int c)]) (st' := [.int 2, .int 0, .int c]) (M' := s_M0) rfl ?_
                        refine s_ek_call (ν := s_e181.1) (P := 23) (as := [.int c, .int 0, .int 2]) (r := []) (fun _ => rfl) rfl ?_
                        show s_Ek (s_rows 3 L xs) 1298 s_e181.1 0 [(0, .int c), (1, .int 0), (2, .int 2)] [] s_M0 _
                        refine s_ek_bk 2 (P := 2) (ls' := [(0, .int c), (1, .int 0), (2, .int 2)]) (st' := [.int 0, .int c]) (M' := s_M0) rfl ?_
                        refine s_ek_if2 (T := 14) rfl rfl (fun h11 => ?_) (fun h11 => ?_)
                        · replace h11 : c.toInt < 0 := h11
                          omega
                        · replace h11 : ¬ (c.toInt < 0) := h11
                          replace h11 : 0 ≤ c.toInt := by omega
                          refine s_ek_bk 2 (P := 7) (ls' := [(0, .int c), (1, .int 0), (2, .int 2)]) (st' := [.int 2, .int c]) (M' := s_M0) rfl ?_
                          refine s_ek_if2 (T := 14) rfl rfl (fun h12 => ?_) (fun h12 => ?_)
                          · replace h12 : 2 < c.toInt := h12
                            omega
                          · replace h12 : ¬ (2 < c.toInt) := h12
                            replace h12 : c.toInt ≤ 2 := by omega
                            refine s_ek_bk 2 (P := 15) (ls' := [(0, .int c), (1, .int 0), (2, .int 2)]) (st' := [.int 1]) (M' := s_M0) rfl ?_
                            refine s_ek_ret (o := some (.int 1)) (fun _ => rfl) ?_
                            show s_Ek (s_rows 3 L xs) 1299 s_e249.1 23 [(0, .ref 151), (1, .int 3), (2, .int b), (3, .int c)] [.int 1] s_M0 _
                            refine s_ek_bk 3 (P := 30) (ls' := [(0, .ref 151), (1, .int 3), (2, .int b), (3, .int c)]) (st' := [.int 3, .ref 151]) (M' := s_M0) rfl ?_
                            refine s_ek_call (ν := s_e236.1) (P := 33) (as := [.ref 151, .int 3]) (r := []) (fun _ => rfl) rfl ?_
                            show s_Ek (s_rows 3 L xs) 1298 s_e236.1 0 [(0, .ref 151), (1, .int 3)] [] s_M0 _
                            refine s_ek_bk 8 (P := 32) (ls' := [(0, .ref 151), (1, .int 3)]) (st' := [.int (-11)]) (M' := s_M0) rfl ?_
                            refine s_ek_ret (o := some (.int (-11))) (fun _ => rfl) ?_
                            show s_Ek (s_rows 3 L xs) 1299 s_e249.1 33 [(0, .ref 151), (1, .int 3), (2, .int b), (3, .int c)] [.int (-11)] s_M0 _
                            refine s_ek_bk 3 (P := 38) (ls' := [(0, .ref 151), (1, .int 3), (2, .int b), (3, .int c)]) (st' := [.int 3, .ref 151]) (M' := s_M0) rfl ?_
                            refine s_ek_call (ν := s_e236.1) (P := 41) (as := [.ref 151, .int 3]) (r := []) (fun _ => rfl) rfl ?_
                            show s_Ek (s_rows 3 L xs) 1298 s_e236.1 0 [(0, .ref 151), (1, .int 3)] [] s_M0 _
                            refine s_ek_bk 8 (P := 32) (ls' := [(0, .ref 151), (1, .int 3)]) (st' := [.int (-11)]) (M' := s_M0) rfl ?_
                            refine s_ek_ret (o := some (.int (-11))) (fun _ => rfl) ?_
                            show s_Ek (s_rows 3 L xs) 1299 s_e249.1 41 [(0, .ref 151), (1, .int 3), (2, .int b), (3, .int c)] [.int (-11)] s_M0 _
                            refine s_ek_ret (o := some (.int (-11))) (fun _ => rfl) ?_
                            exact rfl
                  · refine s_ek_bk 6 (P := 33) (ls' := [(0, .ref 0), (1, .int 4)]) (st' := [.ref 147]) (M' := s_M0) rfl ?_
                    refine s_ek_ret (o := some (.ref 147)) (fun _ => rfl) ?_
                    show s_Ek (s_rows 3 L xs) 1297 s_e177.1 14 [(0, .ref 0), (1, .int 4)] [.ref 147] s_M0 _
                    refine s_ek_bk 2 (P := 16) (ls' := [(2, .ref 147), (0, .ref 0), (1, .int 4)]) (st' := [.ref 147]) (M' := s_M0) rfl ?_
                    refine s_ek_call (ν := s_e84.1) (P := 19) (as := [.ref 147]) (r := []) (fun _ => rfl) rfl ?_
                    show s_Ek (s_rows 3 L xs) 1296 s_e84.1 0 [(0, .ref 147)] [] s_M0 _
                    refine s_ek_bk 6 (P := 13) (ls' := [(0, .ref 147)]) (st' := [.int 1]) (M' := s_M0) rfl ?_
                    refine s_ek_ret (o := some (.int 1)) (fun _ => rfl) ?_
                    show s_Ek (s_rows 3 L xs) 1297 s_e177.1 19 [(2, .ref 147), (0, .ref 0), (1, .int 4)] [.int 1] s_M0 _
                    refine s_ek_bk 2 (P := 24) (ls' := [(2, .ref 147), (0, .ref 0), (1, .int 4)]) (st' := [.int (-11)]) (M' := s_M0) rfl ?_
                    refine s_ek_ret (o := some (.int (-11))) (fun _ => rfl) ?_
                    show s_Ek (s_rows 3 L xs) 1298 s_e178.1 19 [(0, .ref 0), (1, .int 4), (2, .int b), (3, .int c)] [.int (-11)] s_M0 _
                    refine s_ek_bk 1 (P := 23) (ls' := [(0, .ref 0), (1, .int 4), (2, .int b), (3, .int c)]) (st' := [.int (-11)]) (M' := s_M0) rfl ?_
                    refine s_ek_ret (o := some (.int (-11))) (fun _ => rfl) ?_
                    show s_Ek (s_rows 3 L xs) 1299 s_e148.1 7 [(0, .ref 0), (1, .int 4), (2, .int b), (3, .int c)] [.int (-11)] s_M0 _
                    refine s_ek_bk 4 (P := 16) (ls' := [(4, .int (-11)), (0, .ref 0), (1, .int 4), (2, .int b), (3, .int c)]) (st' := [.int (-11)]) (M' := s_M0) rfl ?_
                    refine s_ek_ret (o := some (.int (-11))) (fun _ => rfl) ?_
                    refine ⟨(-11), rfl, ?_⟩
                    show s_Ek (s_rows 3 L xs) 1299 s_e249.1 0 [(0, .ref 151), (1, .int 4), (2, .int b), (3, .int c)] [] s_M0 _
                    refine s_ek_bk 1 (P := 1) (ls' := [(0, .ref 151), (1, .int 4), (2, .int b), (3, .int c)]) (st' := [.int 4]) (M' := s_M0) rfl ?_
                    refine s_ek_call (ν := s_e281.1) (P := 4) (as := [.int 4]) (r := []) (fun _ => rfl) rfl ?_
                    show s_Ek (s_rows 3 L xs) 1298 s_e281.1 0 [(0, .int 4)] [] s_M0 _
                    refine s_ek_bk 3 (P := 3) (ls' := [(0, .int 4)]) (st' := [.int 5, .int 0, .int 4]) (M' := s_M0) rfl ?_
                    refine s_ek_call (ν := s_e181.1) (P := 6) (as := [.int 4, .int 0, .int 5]) (r := []) (fun _ => rfl) rfl ?_
                    show s_Ek (s_rows 3 L xs) 1297 s_e181.1 0 [(0, .int 4), (1, .int 0), (2, .int 5)] [] s_M0 _
                    refine s_ek_bk 8 (P := 15) (ls' := [(0, .int 4), (1, .int 0), (2, .int 5)]) (st' := [.int 1]) (M' := s_M0) rfl ?_
                    refine s_ek_ret (o := some (.int 1)) (fun _ => rfl) ?_
                    show s_Ek (s_rows 3 L xs) 1298 s_e281.1 6 [(0, .int 4)] [.int 1] s_M0 _
                    refine s_ek_ret (o := some (.int 1)) (fun _ => rfl) ?_
                    show s_Ek (s_rows 3 L xs) 1299 s_e249.1 4 [(0, .ref 151), (1, .int 4), (2, .int b), (3, .int c)] [.int 1] s_M0 _
                    refine s_ek_bk 4 (P := 11) (ls' := [(0, .ref 151), (1, .int 4), (2, .int b), (3, .int c)]) (st' := [.int 99, .int 0, .int b]) (M' := s_M0) rfl ?_
                    refine s_ek_call (ν := s_e181.1) (P := 14) (as := [.int b, .int 0, .int 99]) (r := []) (fun _ => rfl) rfl ?_
                    show s_Ek (s_rows 3 L xs) 1298 s_e181.1 0 [(0, .int b), (1, .int 0), (2, .int 99)] [] s_M0 _
                    refine s_ek_bk 2 (P := 2) (ls' := [(0, .int b), (1, .int 0), (2, .int 99)]) (st' := [.int 0, .int b]) (M' := s_M0) rfl ?_
                    refine s_ek_if2 (T := 14) rfl rfl (fun h9 => ?_) (fun h9 => ?_)
                    · replace h9 : b.toInt < 0 := h9
                      omega
                    · replace h9 : ¬ (b.toInt < 0) := h9
                      replace h9 : 0 ≤ b.toInt := by omega
                      refine s_ek_bk 2 (P := 7) (ls' := [(0, .int b), (1, .int 0), (2, .int 99)]) (st' := [.int 99, .int b]) (M' := s_M0) rfl ?_
                      refine s_ek_if2 (T := 14) rfl rfl (fun h10 => ?_) (fun h10 => ?_)
                      · replace h10 : 99 < b.toInt := h10
                        omega
                      · replace h10 : ¬ (99 < b.toInt) := h10
                        replace h10 : b.toInt ≤ 99 := by omega
                        refine s_ek_bk 2 (P := 15) (ls' := [(0, .int b), (1, .int 0), (2, .int 99)]) (st' := [.int 1]) (M' := s_M0) rfl ?_
                        refine s_ek_ret (o := some (.int 1)) (fun _ => rfl) ?_
                        show s_Ek (s_rows 3 L xs) 1299 s_e249.1 14 [(0, .ref 151), (1, .int 4), (2, .int b), (3, .int c)] [.int 1] s_M0 _
                        refine s_ek_bk 4 (P := 20) (ls' := [(0, .ref 151), (1, .int 4), (2, .int b), (3, .int c)]) (st' := [.int 2, .int 0, .int c]) (M' := s_M0) rfl ?_
                        refine s_ek_call (ν := s_e181.1) (P := 23) (as := [.int c, .int 0, .int 2]) (r := []) (fun _ => rfl) rfl ?_
                        show s_Ek (s_rows 3 L xs) 1298 s_e181.1 0 [(0, .int c), (1, .int 0), (2, .int 2)] [] s_M0 _
                        refine s_ek_bk 2 (P := 2) (ls' := [(0, .int c), (1, .int 0), (2, .int 2)]) (st' := [.int 0, .int c]) (M' := s_M0) rfl ?_
                        refine s_ek_if2 (T := 14) rfl rfl (fun h11 => ?_) (fun h11 => ?_)
                        · replace h11 : c.toInt < 0 := h11
                          omega
                        · replace h11 : ¬ (c.toInt < 0) := h11
                          replace h11 : 0 ≤ c.toInt := by omega
                          refine s_ek_bk 2 (P := 7) (ls' := [(0, .int c), (1, .int 0), (2, .int 2)]) (st' := [.int 2, .int c]) (M' := s_M0) rfl ?_
                          refine s_ek_if2 (T := 14) rfl rfl (fun h12 => ?_) (fun h12 => ?_)
                          · replace h12 : 2 < c.toInt := h12
                            omega
                          · replace h12 : ¬ (2 < c.toInt) := h12
                            replace h12 : c.toInt ≤ 2 := by omega
                            refine s_ek_bk 2 (P := 15) (ls' := [(0, .int c), (1, .int 0), (2, .int 2)]) (st' := [.int 1]) (M' := s_M0) rfl ?_
                            refine s_ek_ret (o := some (.int 1)) (fun _ => rfl) ?_
                            show s_Ek (s_rows 3 L xs) 1299 s_e249.1 23 [(0, .ref 151), (1, .int 4), (2, .int b), (3, .int c)] [.int 1] s_M0 _
                            refine s_ek_bk 3 (P := 30) (ls' := [(0, .ref 151), (1, .int 4), (2, .int b), (3, .int c)]) (st' := [.int 4, .ref 151]) (M' := s_M0) rfl ?_
                            refine s_ek_call (ν := s_e236.1) (P := 33) (as := [.ref 151, .int 4]) (r := []) (fun _ => rfl) rfl ?_
                            show s_Ek (s_rows 3 L xs) 1298 s_e236.1 0 [(0, .ref 151), (1, .int 4)] [] s_M0 _
                            refine s_ek_bk 8 (P := 32) (ls' := [(0, .ref 151), (1, .int 4)]) (st' := [.int (-11)]) (M' := s_M0) rfl ?_
                            refine s_ek_ret (o := some (.int (-11))) (fun _ => rfl) ?_
                            show s_Ek (s_rows 3 L xs) 1299 s_e249.1 33 [(0, .ref 151), (1, .int 4), (2, .int b), (3, .int c)] [.int (-11)] s_M0 _
                            refine s_ek_bk 3 (P := 38) (ls' := [(0, .ref 151), (1, .int 4), (2, .int b), (3, .int c)]) (st' := [.int 4, .ref 151]) (M' := s_M0) rfl ?_
                            refine s_ek_call (ν := s_e236.1) (P := 41) (as := [.ref 151, .int 4]) (r := []) (fun _ => rfl) rfl ?_
                            show s_Ek (s_rows 3 L xs) 1298 s_e236.1 0 [(0, .ref 151), (1, .int 4)] [] s_M0 _
                            refine s_ek_bk 8 (P := 32) (ls' := [(0, .ref 151), (1, .int 4)]) (st' := [.int (-11)]) (M' := s_M0) rfl ?_
                            refine s_ek_ret (o := some (.int (-11))) (fun _ => rfl) ?_
                            show s_Ek (s_rows 3 L xs) 1299 s_e249.1 41 [(0, .ref 151), (1, .int 4), (2, .int b), (3, .int c)] [.int (-11)] s_M0 _
                            refine s_ek_ret (o := some (.int (-11))) (fun _ => rfl) ?_
                            exact rfl
                  · refine s_ek_bk 6 (P := 33) (ls' := [(0, .ref 0), (1, .int 5)]) (st' := [.ref 149]) (M' := s_M0) rfl ?_
                    refine s_ek_ret (o := some (.ref 149)) (fun _ => rfl) ?_
                    show s_Ek (s_rows 3 L xs) 1297 s_e177.1 14 [(0, .ref 0), (1, .int 5)] [.ref 149] s_M0 _
                    refine s_ek_bk 2 (P := 16) (ls' := [(2, .ref 149), (0, .ref 0), (1, .int 5)]) (st' := [.ref 149]) (M' := s_M0) rfl ?_
                    refine s_ek_call (ν := s_e84.1) (P := 19) (as := [.ref 149]) (r := []) (fun _ => rfl) rfl ?_
                    show s_Ek (s_rows 3 L xs) 1296 s_e84.1 0 [(0, .ref 149)] [] s_M0 _
                    refine s_ek_bk 6 (P := 13) (ls' := [(0, .ref 149)]) (st' := [.int 1]) (M' := s_M0) rfl ?_
                    refine s_ek_ret (o := some (.int 1)) (fun _ => rfl) ?_
                    show s_Ek (s_rows 3 L xs) 1297 s_e177.1 19 [(2, .ref 149), (0, .ref 0), (1, .int 5)] [.int 1] s_M0 _
                    refine s_ek_bk 2 (P := 24) (ls' := [(2, .ref 149), (0, .ref 0), (1, .int 5)]) (st' := [.int (-11)]) (M' := s_M0) rfl ?_
                    refine s_ek_ret (o := some (.int (-11))) (fun _ => rfl) ?_
                    show s_Ek (s_rows 3 L xs) 1298 s_e178.1 19 [(0, .ref 0), (1, .int 5), (2, .int b), (3, .int c)] [.int (-11)] s_M0 _
                    refine s_ek_bk 1 (P := 23) (ls' := [(0, .ref 0), (1, .int 5), (2, .int b), (3, .int c)]) (st' := [.int (-11)]) (M' := s_M0) rfl ?_
                    refine s_ek_ret (o := some (.int (-11))) (fun _ => rfl) ?_
                    show s_Ek (s_rows 3 L xs) 1299 s_e148.1 7 [(0, .ref 0), (1, .int 5), (2, .int b), (3, .int c)] [.int (-11)] s_M0 _
                    refine s_ek_bk 4 (P := 16) (ls' := [(4, .int (-11)), (0, .ref 0), (1, .int 5), (2, .int b), (3, .int c)]) (st' := [.int (-11)]) (M' := s_M0) rfl ?_
                    refine s_ek_ret (o := some (.int (-11))) (fun _ => rfl) ?_
                    refine ⟨(-11), rfl, ?_⟩
                    show s_Ek (s_rows 3 L xs) 1299 s_e249.1 0 [(0, .ref 151), (1, .int 5), (2, .int b), (3, .int c)] [] s_M0 _
                    refine s_ek_bk 1 (P := 1) (ls' := [(0, .ref 151), (1, .int 5), (2, .int b), (3, .int c)]) (st' := [.int 5]) (M' := s_M0) rfl ?_
                    refine s_ek_call (ν := s_e281.1) (P := 4) (as := [.int 5]) (r := []) (fun _ => rfl) rfl ?_
                    show s_Ek (s_rows 3 L xs) 1298 s_e281.1 0 [(0, .int 5)] [] s_M0 _
                    refine s_ek_bk 3 (P := 3) (ls' := [(0, .int 5)]) (st' := [.int 5, .int 0, .int 5]) (M' := s_M0) rfl ?_
                    refine s_ek_call (ν := s_e181.1) (P := 6) (as := [.int 5, .int 0, .int 5]) (r := []) (fun _ => rfl) rfl ?_
                    show s_Ek (s_rows 3 L xs) 1297 s_e181.1 0 [(0, .int 5), (1, .int 0), (2, .int 5)] [] s_M0 _
                    refine s_ek_bk 8 (P := 15) (ls' := [(0, .int 5), (1, .int 0), (2, .int 5)]) (st' := [.int 1]) (M' := s_M0) rfl ?_
                    refine s_ek_ret (o := some (.int 1)) (fun _ => rfl) ?_
                    show s_Ek (s_rows 3 L xs) 1298 s_e281.1 6 [(0, .int 5)] [.int 1] s_M0 _
                    refine s_ek_ret (o := some (.int 1)) (fun _ => rfl) ?_
                    show s_Ek (s_rows 3 L xs) 1299 s_e249.1 4 [(0, .ref 151), (1, .int 5), (2, .int b), (3, .int c)] [.int 1] s_M0 _
                    refine s_ek_bk 4 (P := 11) (ls' := [(0, .ref 151), (1, .int 5), (2, .int b), (3, .int c)]) (st' := [.int 99, .int 0, .int b]) (M' := s_M0) rfl ?_
                    refine s_ek_call (ν := s_e181.1) (P := 14) (as := [.int b, .int 0, .int 99]) (r := []) (fun _ => rfl) rfl ?_
                    show s_Ek (s_rows 3 L xs) 1298 s_e181.1 0 [(0, .int b), (1, .int 0), (2, .int 99)] [] s_M0 _
                    refine s_ek_bk 2 (P := 2) (ls' := [(0, .int b), (1, .int 0), (2, .int 99)]) (st' := [.int 0, .int b]) (M' := s_M0) rfl ?_
                    refine s_ek_if2 (T := 14) rfl rfl (fun h9 => ?_) (fun h9 => ?_)
                    · replace h9 : b.toInt < 0 := h9
                      omega
                    · replace h9 : ¬ (b.toInt < 0) := h9
                      replace h9 : 0 ≤ b.toInt := by omega
                      refine s_ek_bk 2 (P := 7) (ls' := [(0, .int b), (1, .int 0), (2, .int 99)]) (st' := [.int 99, .int b]) (M' := s_M0) rfl ?_
                      refine s_ek_if2 (T := 14) rfl rfl (fun h10 => ?_) (fun h10 => ?_)
                      · replace h10 : 99 < b.toInt := h10
                        omega
                      · replace h10 : ¬ (99 < b.toInt) := h10
                        replace h10 : b.toInt ≤ 99 := by omega
                        refine s_ek_bk 2 (P := 15) (ls' := [(0, .int b), (1, .int 0), (2, .int 99)]) (st' := [.int 1]) (M' := s_M0) rfl ?_
                        refine s_ek_ret (o := some (.int 1)) (fun _ => rfl) ?_
                        show s_Ek (s_rows 3 L xs) 1299 s_e249.1 14 [(0, .ref 151), (1, .int 5), (2, .int b), (3, .int c)] [.int 1] s_M0 _
                        refine s_ek_bk 4 (P := 20) (ls' := [(0, .ref 151), (1, .int 5), (2, .int b), (3, .int c)]) (st' := [.int 2, .int 0, .int c]) (M' := s_M0) rfl ?_
                        refine s_ek_call (ν := s_e181.1) (P := 23) (as := [.int c, .int 0, .int 2]) (r := []) (fun _ => rfl) rfl ?_
                        show s_Ek (s_rows 3 L xs) 1298 s_e181.1 0 [(0, .int c), (1, .int 0), (2, .int 2)] [] s_M0 _
                        refine s_ek_bk 2 (P := 2) (ls' := [(0, .int c), (1, .int 0), (2, .int 2)]) (st' := [.int 0, .int c]) (M' := s_M0) rfl ?_
                        refine s_ek_if2 (T := 14) rfl rfl (fun h11 => ?_) (fun h11 => ?_)
                        · replace h11 : c.toInt < 0 := h11
                          omega
                        · replace h11 : ¬ (c.toInt < 0) := h11
                          replace h11 : 0 ≤ c.toInt := by omega
                          refine s_ek_bk 2 (P := 7) (ls' := [(0, .int c), (1, .int 0), (2, .int 2)]) (st' := [.int 2, .int c]) (M' := s_M0) rfl ?_
                          refine s_ek_if2 (T := 14) rfl rfl (fun h12 => ?_) (fun h12 => ?_)
                          · replace h12 : 2 < c.toInt := h12
                            omega
                          · replace h12 : ¬ (2 < c.toInt) := h12
                            replace h12 : c.toInt ≤ 2 := by omega
                            refine s_ek_bk 2 (P := 15) (ls' := [(0, .int c), (1, .int 0), (2, .int 2)]) (st' := [.int 1]) (M' := s_M0) rfl ?_
                            refine s_ek_ret (o := some (.int 1)) (fun _ => rfl) ?_
                            show s_Ek (s_rows 3 L xs) 1299 s_e249.1 23 [(0, .ref 151), (1, .int 5), (2, .int b), (3, .int c)] [.int 1] s_M0 _
                            refine s_ek_bk 3 (P := 30) (ls' := [(0, .ref 151), (1, .int 5), (2, .int b), (3, .int c)]) (st' := [.int 5, .ref 151]) (M' := s_M0) rfl ?_
                            refine s_ek_call (ν := s_e236.1) (P := 33) (as := [.ref 151, .int 5]) (r := []) (fun _ => rfl) rfl ?_
                            show s_Ek (s_rows 3 L xs) 1298 s_e236.1 0 [(0, .ref 151), (1, .int 5)] [] s_M0 _
                            refine s_ek_bk 8 (P := 32) (ls' := [(0, .ref 151), (1, .int 5)]) (st' := [.int (-11)]) (M' := s_M0) rfl ?_
                            refine s_ek_ret (o := some (.int (-11))) (fun _ => rfl) ?_
                            show s_Ek (s_rows 3 L xs) 1299 s_e249.1 33 [(0, .ref 151), (1, .int 5), (2, .int b), (3, .int c)] [.int (-11)] s_M0 _
                            refine s_ek_bk 3 (P := 38) (ls' := [(0, .ref 151), (1, .int 5), (2, .int b), (3, .int c)]) (st' := [.int 5, .ref 151]) (M' := s_M0) rfl ?_
                            refine s_ek_call (ν := s_e236.1) (P := 41) (as := [.ref 151, .int 5]) (r := []) (fun _ => rfl) rfl ?_
                            show s_Ek (s_rows 3 L xs) 1298 s_e236.1 0 [(0, .ref 151), (1, .int 5)] [] s_M0 _
                            refine s_ek_bk 8 (P := 32) (ls' := [(0, .ref 151), (1, .int 5)]) (st' := [.int (-11)]) (M' := s_M0) rfl ?_
                            refine s_ek_ret (o := some (.int (-11))) (fun _ => rfl) ?_
                            show s_Ek (s_rows 3 L xs) 1299 s_e249.1 41 [(0, .ref 151), (1, .int 5), (2, .int b), (3, .int c)] [.int (-11)] s_M0 _
                            refine s_ek_ret (o := some (.int (-11))) (fun _ => rfl) ?_
                            exact rfl
set_option maxHeartbeats 20000000 in
set_option maxRecDepth 100000 in
theorem s_op_bars (L : Nat) (xs : Nat → Int32) (a : Int32) (b : Int32) (c : Int32) : s_Ek (s_rows 3 L xs) 1299 s_e149.1 0 (lv_args 0 [.ref 0, .int a, .int b, .int c]) [] s_M0 (fun v M1 => ∃ r : Int32, v = some (.int r) ∧ s_Ek (s_rows 3 L xs) 1299 s_e251.1 0 (lv_args 0 [.ref 151, .int a, .int b, .int c]) [] M1 (fun w _ => w = some (.int r))) := by
  show s_Ek (s_rows 3 L xs) 1299 s_e149.1 0 [(0, .ref 0), (1, .int a), (2, .int b), (3, .int c)] [] s_M0 _
  refine s_ek_bk 4 (P := 4) (ls' := [(0, .ref 0), (1, .int a), (2, .int b), (3, .int c)]) (st' := [.int c, .int b, .int a, .ref 0]) (M' := s_M0) rfl ?_
  refine s_ek_call (ν := s_e178.1) (P := 7) (as := [.ref 0, .int a, .int b, .int c]) (r := []) (fun _ => rfl) rfl ?_
  show s_Ek (s_rows 3 L xs) 1298 s_e178.1 0 [(0, .ref 0), (1, .int a), (2, .int b), (3, .int c)] [] s_M0 _
  refine s_ek_bk 1 (P := 1) (ls' := [(0, .ref 0), (1, .int a), (2, .int b), (3, .int c)]) (st' := [.int b]) (M' := s_M0) rfl ?_
  refine s_ek_call (ν := s_e169.1) (P := 4) (as := [.int b]) (r := []) (fun _ => rfl) rfl ?_
  show s_Ek (s_rows 3 L xs) 1297 s_e169.1 0 [(0, .int b)] [] s_M0 _
  refine s_ek_bk 1 (P := 1) (ls' := [(0, .int b)]) (st' := [.int b]) (M' := s_M0) rfl ?_
  refine s_ek_if1 (T := 14) rfl rfl (fun h1 => ?_) (fun h1 => ?_)
  · replace h1 : b.toInt < 0 := h1
    refine s_ek_bk 1 (P := 15) (ls' := [(0, .int b)]) (st' := [.int 0]) (M' := s_M0) rfl ?_
    refine s_ek_ret (o := some (.int 0)) (fun _ => rfl) ?_
    show s_Ek (s_rows 3 L xs) 1298 s_e178.1 4 [(0, .ref 0), (1, .int a), (2, .int b), (3, .int c)] [.int 0] s_M0 _
    refine s_ek_bk 2 (P := 23) (ls' := [(0, .ref 0), (1, .int a), (2, .int b), (3, .int c)]) (st' := [.int (-1)]) (M' := s_M0) rfl ?_
    refine s_ek_ret (o := some (.int (-1))) (fun _ => rfl) ?_
    show s_Ek (s_rows 3 L xs) 1299 s_e149.1 7 [(0, .ref 0), (1, .int a), (2, .int b), (3, .int c)] [.int (-1)] s_M0 _
    refine s_ek_bk 4 (P := 16) (ls' := [(4, .int (-1)), (0, .ref 0), (1, .int a), (2, .int b), (3, .int c)]) (st' := [.int (-1)]) (M' := s_M0) rfl ?_
    refine s_ek_ret (o := some (.int (-1))) (fun _ => rfl) ?_
    refine ⟨(-1), rfl, ?_⟩
    show s_Ek (s_rows 3 L xs) 1299 s_e251.1 0 [(0, .ref 151), (1, .int a), (2, .int b), (3, .int c)] [] s_M0 _
    refine s_ek_bk 1 (P := 1) (ls' := [(0, .ref 151), (1, .int a), (2, .int b), (3, .int c)]) (st' := [.int a]) (M' := s_M0) rfl ?_
    refine s_ek_call (ν := s_e281.1) (P := 4) (as := [.int a]) (r := []) (fun _ => rfl) rfl ?_
    show s_Ek (s_rows 3 L xs) 1298 s_e281.1 0 [(0, .int a)] [] s_M0 _
    refine s_ek_bk 3 (P := 3) (ls' := [(0, .int a)]) (st' := [.int 5, .int 0, .int a]) (M' := s_M0) rfl ?_
    refine s_ek_call (ν := s_e181.1) (P := 6) (as := [.int a, .int 0, .int 5]) (r := []) (fun _ => rfl) rfl ?_
    show s_Ek (s_rows 3 L xs) 1297 s_e181.1 0 [(0, .int a), (1, .int 0), (2, .int 5)] [] s_M0 _
    refine s_ek_bk 2 (P := 2) (ls' := [(0, .int a), (1, .int 0), (2, .int 5)]) (st' := [.int 0, .int a]) (M' := s_M0) rfl ?_
    refine s_ek_if2 (T := 14) rfl rfl (fun h2 => ?_) (fun h2 => ?_)
    · replace h2 : a.toInt < 0 := h2
      refine s_ek_bk 1 (P := 15) (ls' := [(0, .int a), (1, .int 0), (2, .int 5)]) (st' := [.int 0]) (M' := s_M0) rfl ?_
      refine s_ek_ret (o := some (.int 0)) (fun _ => rfl) ?_
      show s_Ek (s_rows 3 L xs) 1298 s_e281.1 6 [(0, .int a)] [.int 0] s_M0 _
      refine s_ek_ret (o := some (.int 0)) (fun _ => rfl) ?_
      show s_Ek (s_rows 3 L xs) 1299 s_e251.1 4 [(0, .ref 151), (1, .int a), (2, .int b), (3, .int c)] [.int 0] s_M0 _
      refine s_ek_bk 2 (P := 27) (ls' := [(0, .ref 151), (1, .int a), (2, .int b), (3, .int c)]) (st' := [.int (-1)]) (M' := s_M0) rfl ?_
      refine s_ek_ret (o := some (.int (-1))) (fun _ => rfl) ?_
      exact rfl
    · replace h2 : ¬ (a.toInt < 0) := h2
      replace h2 : 0 ≤ a.toInt := by omega
      refine s_ek_bk 2 (P := 7) (ls' := [(0, .int a), (1, .int 0), (2, .int 5)]) (st' := [.int 5, .int a]) (M' := s_M0) rfl ?_
      refine s_ek_if2 (T := 14) rfl rfl (fun h3 => ?_) (fun h3 => ?_)
      · replace h3 : 5 < a.toInt := h3
        refine s_ek_bk 1 (P := 15) (ls' := [(0, .int a), (1, .int 0), (2, .int 5)]) (st' := [.int 0]) (M' := s_M0) rfl ?_
        refine s_ek_ret (o := some (.int 0)) (fun _ => rfl) ?_
        show s_Ek (s_rows 3 L xs) 1298 s_e281.1 6 [(0, .int a)] [.int 0] s_M0 _
        refine s_ek_ret (o := some (.int 0)) (fun _ => rfl) ?_
        show s_Ek (s_rows 3 L xs) 1299 s_e251.1 4 [(0, .ref 151), (1, .int a), (2, .int b), (3, .int c)] [.int 0] s_M0 _
        refine s_ek_bk 2 (P := 27) (ls' := [(0, .ref 151), (1, .int a), (2, .int b), (3, .int c)]) (st' := [.int (-1)]) (M' := s_M0) rfl ?_
        refine s_ek_ret (o := some (.int (-1))) (fun _ => rfl) ?_
        exact rfl
      · replace h3 : ¬ (5 < a.toInt) := h3
        replace h3 : a.toInt ≤ 5 := by omega
        refine s_ek_bk 2 (P := 15) (ls' := [(0, .int a), (1, .int 0), (2, .int 5)]) (st' := [.int 1]) (M' := s_M0) rfl ?_
        refine s_ek_ret (o := some (.int 1)) (fun _ => rfl) ?_
        show s_Ek (s_rows 3 L xs) 1298 s_e281.1 6 [(0, .int a)] [.int 1] s_M0 _
        refine s_ek_ret (o := some (.int 1)) (fun _ => rfl) ?_
        show s_Ek (s_rows 3 L xs) 1299 s_e251.1 4 [(0, .ref 151), (1, .int a), (2, .int b), (3, .int c)] [.int 1] s_M0 _
        refine s_ek_bk 4 (P := 11) (ls' := [(0, .ref 151), (1, .int a), (2, .int b), (3, .int c)]) (st' := [.int 99, .int 0, .int b]) (M' := s_M0) rfl ?_
        refine s_ek_call (ν := s_e181.1) (P := 14) (as := [.int b, .int 0, .int 99]) (r := []) (fun _ => rfl) rfl ?_
        show s_Ek (s_rows 3 L xs) 1298 s_e181.1 0 [(0, .int b), (1, .int 0), (2, .int 99)] [] s_M0 _
        refine s_ek_bk 2 (P := 2) (ls' := [(0, .int b), (1, .int 0), (2, .int 99)]) (st' := [.int 0, .int b]) (M' := s_M0) rfl ?_
        refine s_ek_if2 (T := 14) rfl rfl (fun h4 => ?_) (fun h4 => ?_)
        · replace h4 : b.toInt < 0 := h4
          refine s_ek_bk 1 (P := 15) (ls' := [(0, .int b), (1, .int 0), (2, .int 99)]) (st' := [.int 0]) (M' := s_M0) rfl ?_
          refine s_ek_ret (o := some (.int 0)) (fun _ => rfl) ?_
          show s_Ek (s_rows 3 L xs) 1299 s_e251.1 14 [(0, .ref 151), (1, .int a), (2, .int b), (3, .int c)] [.int 0] s_M0 _
          refine s_ek_bk 2 (P := 27) (ls' := [(0, .ref 151), (1, .int a), (2, .int b), (3, .int c)]) (st' := [.int (-1)]) (M' := s_M0) rfl ?_
          refine s_ek_ret (o := some (.int (-1))) (fun _ => rfl) ?_
          exact rfl
        · replace h4 : ¬ (b.toInt < 0) := h4
          replace h4 : 0 ≤ b.toInt := by omega
          omega
  · replace h1 : ¬ (b.toInt < 0) := h1
    replace h1 : 0 ≤ b.toInt := by omega
    refine s_ek_bk 2 (P := 7) (ls' := [(0, .int b)]) (st' := [.int 99, .int b]) (M' := s_M0) rfl ?_
    refine s_ek_if2 (T := 14) rfl rfl (fun h2 => ?_) (fun h2 => ?_)
    · replace h2 : 99 < b.toInt := h2
      refine s_ek_bk 1 (P := 15) (ls' := [(0, .int b)]) (st' := [.int 0]) (M' := s_M0) rfl ?_
      refine s_ek_ret (o := some (.int 0)) (fun _ => rfl) ?_
      show s_Ek (s_rows 3 L xs) 1298 s_e178.1 4 [(0, .ref 0), (1, .int a), (2, .int b), (3, .int c)] [.int 0] s_M0 _
      refine s_ek_bk 2 (P := 23) (ls' := [(0, .ref 0), (1, .int a), (2, .int b), (3, .int c)]) (st' := [.int (-1)]) (M' := s_M0) rfl ?_
      refine s_ek_ret (o := some (.int (-1))) (fun _ => rfl) ?_
      show s_Ek (s_rows 3 L xs) 1299 s_e149.1 7 [(0, .ref 0), (1, .int a), (2, .int b), (3, .int c)] [.int (-1)] s_M0 _
      refine s_ek_bk 4 (P := 16) (ls' := [(4, .int (-1)), (0, .ref 0), (1, .int a), (2, .int b), (3, .int c)]) (st' := [.int (-1)]) (M' := s_M0) rfl ?_
      refine s_ek_ret (o := some (.int (-1))) (fun _ => rfl) ?_
      refine ⟨(-1), rfl, ?_⟩
      show s_Ek (s_rows 3 L xs) 1299 s_e251.1 0 [(0, .ref 151), (1, .int a), (2, .int b), (3, .int c)] [] s_M0 _
      refine s_ek_bk 1 (P := 1) (ls' := [(0, .ref 151), (1, .int a), (2, .int b), (3, .int c)]) (st' := [.int a]) (M' := s_M0) rfl ?_
      refine s_ek_call (ν := s_e281.1) (P := 4) (as := [.int a]) (r := []) (fun _ => rfl) rfl ?_
      show s_Ek (s_rows 3 L xs) 1298 s_e281.1 0 [(0, .int a)] [] s_M0 _
      refine s_ek_bk 3 (P := 3) (ls' := [(0, .int a)]) (st' := [.int 5, .int 0, .int a]) (M' := s_M0) rfl ?_
      refine s_ek_call (ν := s_e181.1) (P := 6) (as := [.int a, .int 0, .int 5]) (r := []) (fun _ => rfl) rfl ?_
      show s_Ek (s_rows 3 L xs) 1297 s_e181.1 0 [(0, .int a), (1, .int 0), (2, .int 5)] [] s_M0 _
      refine s_ek_bk 2 (P := 2) (ls' := [(0, .int a), (1, .int 0), (2, .int 5)]) (st' := [.int 0, .int a]) (M' := s_M0) rfl ?_
      refine s_ek_if2 (T := 14) rfl rfl (fun h3 => ?_) (fun h3 => ?_)
      · replace h3 : a.toInt < 0 := h3
        refine s_ek_bk 1 (P := 15) (ls' := [(0, .int a), (1, .int 0), (2, .int 5)]) (st' := [.int 0]) (M' := s_M0) rfl ?_
        refine s_ek_ret (o := some (.int 0)) (fun _ => rfl) ?_
        show s_Ek (s_rows 3 L xs) 1298 s_e281.1 6 [(0, .int a)] [.int 0] s_M0 _
        refine s_ek_ret (o := some (.int 0)) (fun _ => rfl) ?_
        show s_Ek (s_rows 3 L xs) 1299 s_e251.1 4 [(0, .ref 151), (1, .int a), (2, .int b), (3, .int c)] [.int 0] s_M0 _
        refine s_ek_bk 2 (P := 27) (ls' := [(0, .ref 151), (1, .int a), (2, .int b), (3, .int c)]) (st' := [.int (-1)]) (M' := s_M0) rfl ?_
        refine s_ek_ret (o := some (.int (-1))) (fun _ => rfl) ?_
        exact rfl
      · replace h3 : ¬ (a.toInt < 0) := h3
        replace h3 : 0 ≤ a.toInt := by omega
        refine s_ek_bk 2 (P := 7) (ls' := [(0, .int a), (1, .int 0), (2, .int 5)]) (st' := [.int 5, .int a]) (M' := s_M0) rfl ?_
        refine s_ek_if2 (T := 14) rfl rfl (fun h4 => ?_) (fun h4 => ?_)
        · replace h4 : 5 < a.toInt := h4
          refine s_ek_bk 1 (P := 15) (ls' := [(0, .int a), (1, .int 0), (2, .int 5)]) (st' := [.int 0]) (M' := s_M0) rfl ?_
          refine s_ek_ret (o := some (.int 0)) (fun _ => rfl) ?_
          show s_Ek (s_rows 3 L xs) 1298 s_e281.1 6 [(0, .int a)] [.int 0] s_M0 _
          refine s_ek_ret (o := some (.int 0)) (fun _ => rfl) ?_
          show s_Ek (s_rows 3 L xs) 1299 s_e251.1 4 [(0, .ref 151), (1, .int a), (2, .int b), (3, .int c)] [.int 0] s_M0 _
          refine s_ek_bk 2 (P := 27) (ls' := [(0, .ref 151), (1, .int a), (2, .int b), (3, .int c)]) (st' := [.int (-1)]) (M' := s_M0) rfl ?_
          refine s_ek_ret (o := some (.int (-1))) (fun _ => rfl) ?_
          exact rfl
        · replace h4 : ¬ (5 < a.toInt) := h4
          replace h4 : a.toInt ≤ 5 := by omega
          refine s_ek_bk 2 (P := 15) (ls' := [(0, .int a), (1, .int 0), (2, .int 5)]) (st' := [.int 1]) (M' := s_M0) rfl ?_
          refine s_ek_ret (o := some (.int 1)) (fun _ => rfl) ?_
          show s_Ek (s_rows 3 L xs) 1298 s_e281.1 6 [(0, .int a)] [.int 1] s_M0 _
          refine s_ek_ret (o := some (.int 1)) (fun _ => rfl) ?_
          show s_Ek (s_rows 3 L xs) 1299 s_e251.1 4 [(0, .ref 151), (1, .int a), (2, .int b), (3, .int c)] [.int 1] s_M0 _
          refine s_ek_bk 4 (P := 11) (ls' := [(0, .ref 151), (1, .int a), (2, .int b), (3, .int c)]) (st' := [.int 99, .int 0, .int b]) (M' := s_M0) rfl ?_
          refine s_ek_call (ν := s_e181.1) (P := 14) (as := [.int b, .int 0, .int 99]) (r := []) (fun _ => rfl) rfl ?_
          show s_Ek (s_rows 3 L xs) 1298 s_e181.1 0 [(0, .int b), (1, .int 0), (2, .int 99)] [] s_M0 _
          refine s_ek_bk 2 (P := 2) (ls' := [(0, .int b), (1, .int 0), (2, .int 99)]) (st' := [.int 0, .int b]) (M' := s_M0) rfl ?_
          refine s_ek_if2 (T := 14) rfl rfl (fun h5 => ?_) (fun h5 => ?_)
          · replace h5 : b.toInt < 0 := h5
            omega
          · replace h5 : ¬ (b.toInt < 0) := h5
            replace h5 : 0 ≤ b.toInt := by omega
            refine s_ek_bk 2 (P := 7) (ls' := [(0, .int b), (1, .int 0), (2, .int 99)]) (st' := [.int 99, .int b]) (M' := s_M0) rfl ?_
            refine s_ek_if2 (T := 14) rfl rfl (fun h6 => ?_) (fun h6 => ?_)
            · replace h6 : 99 < b.toInt := h6
              refine s_ek_bk 1 (P := 15) (ls' := [(0, .int b), (1, .int 0), (2, .int 99)]) (st' := [.int 0]) (M' := s_M0) rfl ?_
              refine s_ek_ret (o := some (.int 0)) (fun _ => rfl) ?_
              show s_Ek (s_rows 3 L xs) 1299 s_e251.1 14 [(0, .ref 151), (1, .int a), (2, .int b), (3, .int c)] [.int 0] s_M0 _
              refine s_ek_bk 2 (P := 27) (ls' := [(0, .ref 151), (1, .int a), (2, .int b), (3, .int c)]) (st' := [.int (-1)]) (M' := s_M0) rfl ?_
              refine s_ek_ret (o := some (.int (-1))) (fun _ => rfl) ?_
              exact rfl
            · replace h6 : ¬ (99 < b.toInt) := h6
              replace h6 : b.toInt ≤ 99 := by omega
              omega
    · replace h2 : ¬ (99 < b.toInt) := h2
      replace h2 : b.toInt ≤ 99 := by omega
      refine s_ek_bk 2 (P := 15) (ls' := [(0, .int b)]) (st' := [.int 1]) (M' := s_M0) rfl ?_
      refine s_ek_ret (o := some (.int 1)) (fun _ => rfl) ?_
      show s_Ek (s_rows 3 L xs) 1298 s_e178.1 4 [(0, .ref 0), (1, .int a), (2, .int b), (3, .int c)] [.int 1] s_M0 _
      refine s_ek_bk 2 (P := 8) (ls' := [(0, .ref 0), (1, .int a), (2, .int b), (3, .int c)]) (st' := [.int c]) (M' := s_M0) rfl ?_
      refine s_ek_call (ν := s_e170.1) (P := 11) (as := [.int c]) (r := []) (fun _ => rfl) rfl ?_
      show s_Ek (s_rows 3 L xs) 1297 s_e170.1 0 [(0, .int c)] [] s_M0 _
      refine s_ek_bk 1 (P := 1) (ls' := [(0, .int c)]) (st' := [.int c]) (M' := s_M0) rfl ?_
      refine s_ek_if1 (T := 13) rfl rfl (fun h3 => ?_) (fun h3 => ?_)
      · replace h3 : c.toInt < 0 := h3
        refine s_ek_bk 1 (P := 14) (ls' := [(0, .int c)]) (st' := [.int 0]) (M' := s_M0) rfl ?_
        refine s_ek_ret (o := some (.int 0)) (fun _ => rfl) ?_
        show s_Ek (s_rows 3 L xs) 1298 s_e178.1 11 [(0, .ref 0), (1, .int a), (2, .int b), (3, .int c)] [.int 0] s_M0 _
        refine s_ek_bk 2 (P := 23) (ls' := [(0, .ref 0), (1, .int a), (2, .int b), (3, .int c)]) (st' := [.int (-1)]) (M' := s_M0) rfl ?_
        refine s_ek_ret (o := some (.int (-1))) (fun _ => rfl) ?_
        show s_Ek (s_rows 3 L xs) 1299 s_e149.1 7 [(0, .ref 0), (1, .int a), (2, .int b), (3, .int c)] [.int (-1)] s_M0 _
        refine s_ek_bk 4 (P := 16) (ls' := [(4, .int (-1)), (0, .ref 0), (1, .int a), (2, .int b), (3, .int c)]) (st' := [.int (-1)]) (M' := s_M0) rfl ?_
        refine s_ek_ret (o := some (.int (-1))) (fun _ => rfl) ?_
        refine ⟨(-1), rfl, ?_⟩
        show s_Ek (s_rows 3 L xs) 1299 s_e251.1 0 [(0, .ref 151), (1, .int a), (2, .int b), (3, .int c)] [] s_M0 _
        refine s_ek_bk 1 (P := 1) (ls' := [(0, .ref 151), (1, .int a), (2, .int b), (3, .int c)]) (st' := [.int a]) (M' := s_M0) rfl ?_
        refine s_ek_call (ν := s_e281.1) (P := 4) (as := [.int a]) (r := []) (fun _ => rfl) rfl ?_
        show s_Ek (s_rows 3 L xs) 1298 s_e281.1 0 [(0, .int a)] [] s_M0 _
        refine s_ek_bk 3 (P := 3) (ls' := [(0, .int a)]) (st' := [.int 5, .int 0, .int a]) (M' := s_M0) rfl ?_
        refine s_ek_call (ν := s_e181.1) (P := 6) (as := [.int a, .int 0, .int 5]) (r := []) (fun _ => rfl) rfl ?_
        show s_Ek (s_rows 3 L xs) 1297 s_e181.1 0 [(0, .int a), (1, .int 0), (2, .int 5)] [] s_M0 _
        refine s_ek_bk 2 (P := 2) (ls' := [(0, .int a), (1, .int 0), (2, .int 5)]) (st' := [.int 0, .int a]) (M' := s_M0) rfl ?_
        refine s_ek_if2 (T := 14) rfl rfl (fun h4 => ?_) (fun h4 => ?_)
        · replace h4 : a.toInt < 0 := h4
          refine s_ek_bk 1 (P := 15) (ls' := [(0, .int a), (1, .int 0), (2, .int 5)]) (st' := [.int 0]) (M' := s_M0) rfl ?_
          refine s_ek_ret (o := some (.int 0)) (fun _ => rfl) ?_
          show s_Ek (s_rows 3 L xs) 1298 s_e281.1 6 [(0, .int a)] [.int 0] s_M0 _
          refine s_ek_ret (o := some (.int 0)) (fun _ => rfl) ?_
          show s_Ek (s_rows 3 L xs) 1299 s_e251.1 4 [(0, .ref 151), (1, .int a), (2, .int b), (3, .int c)] [.int 0] s_M0 _
          refine s_ek_bk 2 (P := 27) (ls' := [(0, .ref 151), (1, .int a), (2, .int b), (3, .int c)]) (st' := [.int (-1)]) (M' := s_M0) rfl ?_
          refine s_ek_ret (o := some (.int (-1))) (fun _ => rfl) ?_
          exact rfl
        · replace h4 : ¬ (a.toInt < 0) := h4
          replace h4 : 0 ≤ a.toInt := by omega
          refine s_ek_bk 2 (P := 7) (ls' := [(0, .int a), (1, .int 0), (2, .int 5)]) (st' := [.int 5, .int a]) (M' := s_M0) rfl ?_
          refine s_ek_if2 (T := 14) rfl rfl (fun h5 => ?_) (fun h5 => ?_)
          · replace h5 : 5 < a.toInt := h5
            refine s_ek_bk 1 (P := 15) (ls' := [(0, .int a), (1, .int 0), (2, .int 5)]) (st' := [.int 0]) (M' := s_M0) rfl ?_
            refine s_ek_ret (o := some (.int 0)) (fun _ => rfl) ?_
            show s_Ek (s_rows 3 L xs) 1298 s_e281.1 6 [(0, .int a)] [.int 0] s_M0 _
            refine s_ek_ret (o := some (.int 0)) (fun _ => rfl) ?_
            show s_Ek (s_rows 3 L xs) 1299 s_e251.1 4 [(0, .ref 151), (1, .int a), (2, .int b), (3, .int c)] [.int 0] s_M0 _
            refine s_ek_bk 2 (P := 27) (ls' := [(0, .ref 151), (1, .int a), (2, .int b), (3, .int c)]) (st' := [.int (-1)]) (M' := s_M0) rfl ?_
            refine s_ek_ret (o := some (.int (-1))) (fun _ => rfl) ?_
            exact rfl
          · replace h5 : ¬ (5 < a.toInt) := h5
            replace h5 : a.toInt ≤ 5 := by omega
            refine s_ek_bk 2 (P := 15) (ls' := [(0, .int a), (1, .int 0), (2, .int 5)]) (st' := [.int 1]) (M' := s_M0) rfl ?_
            refine s_ek_ret (o := some (.int 1)) (fun _ => rfl) ?_
            show s_Ek (s_rows 3 L xs) 1298 s_e281.1 6 [(0, .int a)] [.int 1] s_M0 _
            refine s_ek_ret (o := some (.int 1)) (fun _ => rfl) ?_
            show s_Ek (s_rows 3 L xs) 1299 s_e251.1 4 [(0, .ref 151), (1, .int a), (2, .int b), (3, .int c)] [.int 1] s_M0 _
            refine s_ek_bk 4 (P := 11) (ls' := [(0, .ref 151), (1, .int a), (2, .int b), (3, .int c)]) (st' := [.int 99, .int 0, .int b]) (M' := s_M0) rfl ?_
            refine s_ek_call (ν := s_e181.1) (P := 14) (as := [.int b, .int 0, .int 99]) (r := []) (fun _ => rfl) rfl ?_
            show s_Ek (s_rows 3 L xs) 1298 s_e181.1 0 [(0, .int b), (1, .int 0), (2, .int 99)] [] s_M0 _
            refine s_ek_bk 2 (P := 2) (ls' := [(0, .int b), (1, .int 0), (2, .int 99)]) (st' := [.int 0, .int b]) (M' := s_M0) rfl ?_
            refine s_ek_if2 (T := 14) rfl rfl (fun h6 => ?_) (fun h6 => ?_)
            · replace h6 : b.toInt < 0 := h6
              omega
            · replace h6 : ¬ (b.toInt < 0) := h6
              replace h6 : 0 ≤ b.toInt := by omega
              refine s_ek_bk 2 (P := 7) (ls' := [(0, .int b), (1, .int 0), (2, .int 99)]) (st' := [.int 99, .int b]) (M' := s_M0) rfl ?_
              refine s_ek_if2 (T := 14) rfl rfl (fun h7 => ?_) (fun h7 => ?_)
              · replace h7 : 99 < b.toInt := h7
                omega
              · replace h7 : ¬ (99 < b.toInt) := h7
                replace h7 : b.toInt ≤ 99 := by omega
                refine s_ek_bk 2 (P := 15) (ls' := [(0, .int b), (1, .int 0), (2, .int 99)]) (st' := [.int 1]) (M' := s_M0) rfl ?_
                refine s_ek_ret (o := some (.int 1)) (fun _ => rfl) ?_
                show s_Ek (s_rows 3 L xs) 1299 s_e251.1 14 [(0, .ref 151), (1, .int a), (2, .int b), (3, .int c)] [.int 1] s_M0 _
                refine s_ek_bk 4 (P := 20) (ls' := [(0, .ref 151), (1, .int a), (2, .int b), (3, .int c)]) (st' := [.int 2, .int 0, .int c]) (M' := s_M0) rfl ?_
                refine s_ek_call (ν := s_e181.1) (P := 23) (as := [.int c, .int 0, .int 2]) (r := []) (fun _ => rfl) rfl ?_
                show s_Ek (s_rows 3 L xs) 1298 s_e181.1 0 [(0, .int c), (1, .int 0), (2, .int 2)] [] s_M0 _
                refine s_ek_bk 2 (P := 2) (ls' := [(0, .int c), (1, .int 0), (2, .int 2)]) (st' := [.int 0, .int c]) (M' := s_M0) rfl ?_
                refine s_ek_if2 (T := 14) rfl rfl (fun h8 => ?_) (fun h8 => ?_)
                · replace h8 : c.toInt < 0 := h8
                  refine s_ek_bk 1 (P := 15) (ls' := [(0, .int c), (1, .int 0), (2, .int 2)]) (st' := [.int 0]) (M' := s_M0) rfl ?_
                  refine s_ek_ret (o := some (.int 0)) (fun _ => rfl) ?_
                  show s_Ek (s_rows 3 L xs) 1299 s_e251.1 23 [(0, .ref 151), (1, .int a), (2, .int b), (3, .int c)] [.int 0] s_M0 _
                  refine s_ek_bk 2 (P := 27) (ls' := [(0, .ref 151), (1, .int a), (2, .int b), (3, .int c)]) (st' := [.int (-1)]) (M' := s_M0) rfl ?_
                  refine s_ek_ret (o := some (.int (-1))) (fun _ => rfl) ?_
                  exact rfl
                · replace h8 : ¬ (c.toInt < 0) := h8
                  replace h8 : 0 ≤ c.toInt := by omega
                  omega
      · replace h3 : ¬ (c.toInt < 0) := h3
        replace h3 : 0 ≤ c.toInt := by omega
        refine s_ek_bk 2 (P := 6) (ls' := [(0, .int c)]) (st' := [.int 2, .int c]) (M' := s_M0) rfl ?_
        refine s_ek_if2 (T := 13) rfl rfl (fun h4 => ?_) (fun h4 => ?_)
        · replace h4 : 2 < c.toInt := h4
          refine s_ek_bk 1 (P := 14) (ls' := [(0, .int c)]) (st' := [.int 0]) (M' := s_M0) rfl ?_
          refine s_ek_ret (o := some (.int 0)) (fun _ => rfl) ?_
          show s_Ek (s_rows 3 L xs) 1298 s_e178.1 11 [(0, .ref 0), (1, .int a), (2, .int b), (3, .int c)] [.int 0] s_M0 _
          refine s_ek_bk 2 (P := 23) (ls' := [(0, .ref 0), (1, .int a), (2, .int b), (3, .int c)]) (st' := [.int (-1)]) (M' := s_M0) rfl ?_
          refine s_ek_ret (o := some (.int (-1))) (fun _ => rfl) ?_
          show s_Ek (s_rows 3 L xs) 1299 s_e149.1 7 [(0, .ref 0), (1, .int a), (2, .int b), (3, .int c)] [.int (-1)] s_M0 _
          refine s_ek_bk 4 (P := 16) (ls' := [(4, .int (-1)), (0, .ref 0), (1, .int a), (2, .int b), (3, .int c)]) (st' := [.int (-1)]) (M' := s_M0) rfl ?_
          refine s_ek_ret (o := some (.int (-1))) (fun _ => rfl) ?_
          refine ⟨(-1), rfl, ?_⟩
          show s_Ek (s_rows 3 L xs) 1299 s_e251.1 0 [(0, .ref 151), (1, .int a), (2, .int b), (3, .int c)] [] s_M0 _
          refine s_ek_bk 1 (P := 1) (ls' := [(0, .ref 151), (1, .int a), (2, .int b), (3, .int c)]) (st' := [.int a]) (M' := s_M0) rfl ?_
          refine s_ek_call (ν := s_e281.1) (P := 4) (as := [.int a]) (r := []) (fun _ => rfl) rfl ?_
          show s_Ek (s_rows 3 L xs) 1298 s_e281.1 0 [(0, .int a)] [] s_M0 _
          refine s_ek_bk 3 (P := 3) (ls' := [(0, .int a)]) (st' := [.int 5, .int 0, .int a]) (M' := s_M0) rfl ?_
          refine s_ek_call (ν := s_e181.1) (P := 6) (as := [.int a, .int 0, .int 5]) (r := []) (fun _ => rfl) rfl ?_
          show s_Ek (s_rows 3 L xs) 1297 s_e181.1 0 [(0, .int a), (1, .int 0), (2, .int 5)] [] s_M0 _
          refine s_ek_bk 2 (P := 2) (ls' := [(0, .int a), (1, .int 0), (2, .int 5)]) (st' := [.int 0, .int a]) (M' := s_M0) rfl ?_
          refine s_ek_if2 (T := 14) rfl rfl (fun h5 => ?_) (fun h5 => ?_)
          · replace h5 : a.toInt < 0 := h5
            refine s_ek_bk 1 (P := 15) (ls' := [(0, .int a), (1, .int 0), (2, .int 5)]) (st' := [.int 0]) (M' := s_M0) rfl ?_
            refine s_ek_ret (o := some (.int 0)) (fun _ => rfl) ?_
            show s_Ek (s_rows 3 L xs) 1298 s_e281.1 6 [(0, .int a)] [.int 0] s_M0 _
            refine s_ek_ret (o := some (.int 0)) (fun _ => rfl) ?_
            show s_Ek (s_rows 3 L xs) 1299 s_e251.1 4 [(0, .ref 151), (1, .int a), (2, .int b), (3, .int c)] [.int 0] s_M0 _
            refine s_ek_bk 2 (P := 27) (ls' := [(0, .ref 151), (1, .int a), (2, .int b), (3, .int c)]) (st' := [.int (-1)]) (M' := s_M0) rfl ?_
            refine s_ek_ret (o := some (.int (-1))) (fun _ => rfl) ?_
            exact rfl
          · replace h5 : ¬ (a.toInt < 0) := h5
            replace h5 : 0 ≤ a.toInt := by omega
            refine s_ek_bk 2 (P := 7) (ls' := [(0, .int a), (1, .int 0), (2, .int 5)]) (st' := [.int 5, .int a]) (M' := s_M0) rfl ?_
            refine s_ek_if2 (T := 14) rfl rfl (fun h6 => ?_) (fun h6 => ?_)
            · replace h6 : 5 < a.toInt := h6
              refine s_ek_bk 1 (P := 15) (ls' := [(0, .int a), (1, .int 0), (2, .int 5)]) (st' := [.int 0]) (M' := s_M0) rfl ?_
              refine s_ek_ret (o := some (.int 0)) (fun _ => rfl) ?_
              show s_Ek (s_rows 3 L xs) 1298 s_e281.1 6 [(0, .int a)] [.int 0] s_M0 _
              refine s_ek_ret (o := some (.int 0)) (fun _ => rfl) ?_
              show s_Ek (s_rows 3 L xs) 1299 s_e251.1 4 [(0, .ref 151), (1, .int a), (2, .int b), (3, .int c)] [.int 0] s_M0 _
              refine s_ek_bk 2 (P := 27) (ls' := [(0, .ref 151), (1, .int a), (2, .int b), (3, .int c)]) (st' := [.int (-1)]) (M' := s_M0) rfl ?_
              refine s_ek_ret (o := some (.int (-1))) (fun _ => rfl) ?_
              exact rfl
            · replace h6 : ¬ (5 < a.toInt) := h6
              replace h6 : a.toInt ≤ 5 := by omega
              refine s_ek_bk 2 (P := 15) (ls' := [(0, .int a), (1, .int 0), (2, .int 5)]) (st' := [.int 1]) (M' := s_M0) rfl ?_
              refine s_ek_ret (o := some (.int 1)) (fun _ => rfl) ?_
              show s_Ek (s_rows 3 L xs) 1298 s_e281.1 6 [(0, .int a)] [.int 1] s_M0 _
              refine s_ek_ret (o := some (.int 1)) (fun _ => rfl) ?_
              show s_Ek (s_rows 3 L xs) 1299 s_e251.1 4 [(0, .ref 151), (1, .int a), (2, .int b), (3, .int c)] [.int 1] s_M0 _
              refine s_ek_bk 4 (P := 11) (ls' := [(0, .ref 151), (1, .int a), (2, .int b), (3, .int c)]) (st' := [.int 99, .int 0, .int b]) (M' := s_M0) rfl ?_
              refine s_ek_call (ν := s_e181.1) (P := 14) (as := [.int b, .int 0, .int 99]) (r := []) (fun _ => rfl) rfl ?_
              show s_Ek (s_rows 3 L xs) 1298 s_e181.1 0 [(0, .int b), (1, .int 0), (2, .int 99)] [] s_M0 _
              refine s_ek_bk 2 (P := 2) (ls' := [(0, .int b), (1, .int 0), (2, .int 99)]) (st' := [.int 0, .int b]) (M' := s_M0) rfl ?_
              refine s_ek_if2 (T := 14) rfl rfl (fun h7 => ?_) (fun h7 => ?_)
              · replace h7 : b.toInt < 0 := h7
                omega
              · replace h7 : ¬ (b.toInt < 0) := h7
                replace h7 : 0 ≤ b.toInt := by omega
                refine s_ek_bk 2 (P := 7) (ls' := [(0, .int b), (1, .int 0), (2, .int 99)]) (st' := [.int 99, .int b]) (M' := s_M0) rfl ?_
                refine s_ek_if2 (T := 14) rfl rfl (fun h8 => ?_) (fun h8 => ?_)
                · replace h8 : 99 < b.toInt := h8
                  omega
                · replace h8 : ¬ (99 < b.toInt) := h8
                  replace h8 : b.toInt ≤ 99 := by omega
                  refine s_ek_bk 2 (P := 15) (ls' := [(0, .int b), (1, .int 0), (2, .int 99)]) (st' := [.int 1]) (M' := s_M0) rfl ?_
                  refine s_ek_ret (o := some (.int 1)) (fun _ => rfl) ?_
                  show s_Ek (s_rows 3 L xs) 1299 s_e251.1 14 [(0, .ref 151), (1, .int a), (2, .int b), (3, .int c)] [.int 1] s_M0 _
                  refine s_ek_bk 4 (P := 20) (ls' := [(0, .ref 151), (1, .int a), (2, .int b), (3, .int c)]) (st' := [.int 2, .int 0, .int c]) (M' := s_M0) rfl ?_
                  refine s_ek_call (ν := s_e181.1) (P := 23) (as := [.int c, .int 0, .int 2]) (r := []) (fun _ => rfl) rfl ?_
                  show s_Ek (s_rows 3 L xs) 1298 s_e181.1 0 [(0, .int c), (1, .int 0), (2, .int 2)] [] s_M0 _
                  refine s_ek_bk 2 (P := 2) (ls' := [(0, .int c), (1, .int 0), (2, .int 2)]) (st' := [.int 0, .int c]) (M' := s_M0) rfl ?_
                  refine s_ek_if2 (T := 14) rfl rfl (fun h9 => ?_) (fun h9 => ?_)
                  · replace h9 : c.toInt < 0 := h9
                    omega
                  · replace h9 : ¬ (c.toInt < 0) := h9
                    replace h9 : 0 ≤ c.toInt := by omega
                    refine s_ek_bk 2 (P := 7) (ls' := [(0, .int c), (1, .int 0), (2, .int 2)]) (st' := [.int 2, .int c]) (M' := s_M0) rfl ?_
                    refine s_ek_if2 (T := 14) rfl rfl (fun h10 => ?_) (fun h10 => ?_)
                    · replace h10 : 2 < c.toInt := h10
                      refine s_ek_bk 1 (P := 15) (ls' := [(0, .int c), (1, .int 0), (2, .int 2)]) (st' := [.int 0]) (M' := s_M0) rfl ?_
                      refine s_ek_ret (o := some (.int 0)) (fun _ => rfl) ?_
                      show s_Ek (s_rows 3 L xs) 1299 s_e251.1 23 [(0, .ref 151), (1, .int a), (2, .int b), (3, .int c)] [.int 0] s_M0 _
                      refine s_ek_bk 2 (P := 27) (ls' := [(0, .ref 151), (1, .int a), (2, .int b), (3, .int c)]) (st' := [.int (-1)]) (M' := s_M0) rfl ?_
                      refine s_ek_ret (o := some (.int (-1))) (fun _ => rfl) ?_
                      exact rfl
                    · replace h10 : ¬ (2 < c.toInt) := h10
                      replace h10 : c.toInt ≤ 2 := by omega
                      omega
        · replace h4 : ¬ (2 < c.toInt) := h4
          replace h4 : c.toInt ≤ 2 := by omega
          refine s_ek_bk 2 (P := 14) (ls' := [(0, .int c)]) (st' := [.int 1]) (M' := s_M0) rfl ?_
          refine s_ek_ret (o := some (.int 1)) (fun _ => rfl) ?_
          show s_Ek (s_rows 3 L xs) 1298 s_e178.1 11 [(0, .ref 0), (1, .int a), (2, .int b), (3, .int c)] [.int 1] s_M0 _
          refine s_ek_bk 3 (P := 16) (ls' := [(0, .ref 0), (1, .int a), (2, .int b), (3, .int c)]) (st' := [.int a, .ref 0]) (M' := s_M0) rfl ?_
          refine s_ek_call (ν := s_e177.1) (P := 19) (as := [.ref 0, .int a]) (r := []) (fun _ => rfl) rfl ?_
          show s_Ek (s_rows 3 L xs) 1297 s_e177.1 0 [(0, .ref 0), (1, .int a)] [] s_M0 _
          refine s_ek_bk 1 (P := 1) (ls' := [(0, .ref 0), (1, .int a)]) (st' := [.int a]) (M' := s_M0) rfl ?_
          refine s_ek_call (ν := s_e175.1) (P := 4) (as := [.int a]) (r := []) (fun _ => rfl) rfl ?_
          show s_Ek (s_rows 3 L xs) 1296 s_e175.1 0 [(0, .int a)] [] s_M0 _
          refine s_ek_bk 1 (P := 1) (ls' := [(0, .int a)]) (st' := [.int a]) (M' := s_M0) rfl ?_
          refine s_ek_if1 (T := 14) rfl rfl (fun h5 => ?_) (fun h5 => ?_)
          · replace h5 : a.toInt < 0 := h5
            refine s_ek_bk 1 (P := 15) (ls' := [(0, .int a)]) (st' := [.int 0]) (M' := s_M0) rfl ?_
            refine s_ek_ret (o := some (.int 0)) (fun _ => rfl) ?_
            show s_Ek (s_rows 3 L xs) 1297 s_e177.1 4 [(0, .ref 0), (1, .int a)] [.int 0] s_M0 _
            refine s_ek_bk 2 (P := 8) (ls' := [(0, .ref 0), (1, .int a)]) (st' := [.int (-1)]) (M' := s_M0) rfl ?_
            refine s_ek_ret (o := some (.int (-1))) (fun _ => rfl) ?_
            show s_Ek (s_rows 3 L xs) 1298 s_e178.1 19 [(0, .ref 0), (1, .int a), (2, .int b), (3, .int c)] [.int (-1)] s_M0 _
            refine s_ek_bk 1 (P := 23) (ls' := [(0, .ref 0), (1, .int a), (2, .int b), (3, .int c)]) (st' := [.int (-1)]) (M' := s_M0) rfl ?_
            refine s_ek_ret (o := some (.int (-1))) (fun _ => rfl) ?_
            show s_Ek (s_rows 3 L xs) 1299 s_e149.1 7 [(0, .ref 0), (1, .int a), (2, .int b), (3, .int c)] [.int (-1)] s_M0 _
            refine s_ek_bk 4 (P := 16) (ls' := [(4, .int (-1)), (0, .ref 0), (1, .int a), (2, .int b), (3, .int c)]) (st' := [.int (-1)]) (M' := s_M0) rfl ?_
            refine s_ek_ret (o := some (.int (-1))) (fun _ => rfl) ?_
            refine ⟨(-1), rfl, ?_⟩
            show s_Ek (s_rows 3 L xs) 1299 s_e251.1 0 [(0, .ref 151), (1, .int a), (2, .int b), (3, .int c)] [] s_M0 _
            refine s_ek_bk 1 (P := 1) (ls' := [(0, .ref 151), (1, .int a), (2, .int b), (3, .int c)]) (st' := [.int a]) (M' := s_M0) rfl ?_
            refine s_ek_call (ν := s_e281.1) (P := 4) (as := [.int a]) (r := []) (fun _ => rfl) rfl ?_
            show s_Ek (s_rows 3 L xs) 1298 s_e281.1 0 [(0, .int a)] [] s_M0 _
            refine s_ek_bk 3 (P := 3) (ls' := [(0, .int a)]) (st' := [.int 5, .int 0, .int a]) (M' := s_M0) rfl ?_
            refine s_ek_call (ν := s_e181.1) (P := 6) (as := [.int a, .int 0, .int 5]) (r := []) (fun _ => rfl) rfl ?_
            show s_Ek (s_rows 3 L xs) 1297 s_e181.1 0 [(0, .int a), (1, .int 0), (2, .int 5)] [] s_M0 _
            refine s_ek_bk 2 (P := 2) (ls' := [(0, .int a), (1, .int 0), (2, .int 5)]) (st' := [.int 0, .int a]) (M' := s_M0) rfl ?_
            refine s_ek_if2 (T := 14) rfl rfl (fun h6 => ?_) (fun h6 => ?_)
            · replace h6 : a.toInt < 0 := h6
              refine s_ek_bk 1 (P := 15) (ls' := [(0, .int a), (1, .int 0), (2, .int 5)]) (st' := [.int 0]) (M' := s_M0) rfl ?_
              refine s_ek_ret (o := some (.int 0)) (fun _ => rfl) ?_
              show s_Ek (s_rows 3 L xs) 1298 s_e281.1 6 [(0, .int a)] [.int 0] s_M0 _
              refine s_ek_ret (o := some (.int 0)) (fun _ => rfl) ?_
              show s_Ek (s_rows 3 L xs) 1299 s_e251.1 4 [(0, .ref 151), (1, .int a), (2, .int b), (3, .int c)] [.int 0] s_M0 _
              refine s_ek_bk 2 (P := 27) (ls' := [(0, .ref 151), (1, .int a), (2, .int b), (3, .int c)]) (st' := [.int (-1)]) (M' := s_M0) rfl ?_
              refine s_ek_ret (o := some (.int (-1))) (fun _ => rfl) ?_
              exact rfl
            · replace h6 : ¬ (a.toInt < 0) := h6
              replace h6 : 0 ≤ a.toInt := by omega
              omega
          · replace h5 : ¬ (a.toInt < 0) := h5
            replace h5 : 0 ≤ a.toInt := by omega
            refine s_ek_bk 2 (P := 7) (ls' := [(0, .int a)]) (st' := [.int 6, .int a]) (M' := s_M0) rfl ?_
            refine s_ek_if2 (T := 14) rfl rfl (fun h6 => ?_) (fun h6 => ?_)
            · replace h6 : 6 ≤ a.toInt := h6
              refine s_ek_bk 1 (P := 15) (ls' := [(0, .int a)]) (st' := [.int 0]) (M' := s_M0) rfl ?_
              refine s_ek_ret (o := some (.int 0)) (fun _ => rfl) ?_
              show s_Ek (s_rows 3 L xs) 1297 s_e177.1 4 [(0, .ref 0), (1, .int a)] [.int 0] s_M0 _
              refine s_ek_bk 2 (P := 8) (ls' := [(0, .ref 0), (1, .int a)]) (st' := [.int (-1)]) (M' := s_M0) rfl ?_
              refine s_ek_ret (o := some (.int (-1))) (fun _ => rfl) ?_
              show s_Ek (s_rows 3 L xs) 1298 s_e178.1 19 [(0, .ref 0), (1, .int a), (2, .int b), (3, .int c)] [.int (-1)] s_M0 _
              refine s_ek_bk 1 (P := 23) (ls' := [(0, .ref 0), (1, .int a), (2, .int b), (3, .int c)]) (st' := [.int (-1)]) (M' := s_M0) rfl ?_
              refine s_ek_ret (o := some (.int (-1))) (fun _ => rfl) ?_
              show s_Ek (s_rows 3 L xs) 1299 s_e149.1 7 [(0, .ref 0), (1, .int a), (2, .int b), (3, .int c)] [.int (-1)] s_M0 _
              refine s_ek_bk 4 (P := 16) (ls' := [(4, .int (-1)), (0, .ref 0), (1, .int a), (2, .int b), (3, .int c)]) (st' := [.int (-1)]) (M' := s_M0) rfl ?_
              refine s_ek_ret (o := some (.int (-1))) (fun _ => rfl) ?_
              refine ⟨(-1), rfl, ?_⟩
              show s_Ek (s_rows 3 L xs) 1299 s_e251.1 0 [(0, .ref 151), (1, .int a), (2, .int b), (3, .int c)] [] s_M0 _
              refine s_ek_bk 1 (P := 1) (ls' := [(0, .ref 151), (1, .int a), (2, .int b), (3, .int c)]) (st' := [.int a]) (M' := s_M0) rfl ?_
              refine s_ek_call (ν := s_e281.1) (P := 4) (as := [.int a]) (r := []) (fun _ => rfl) rfl ?_
              show s_Ek (s_rows 3 L xs) 1298 s_e281.1 0 [(0, .int a)] [] s_M0 _
              refine s_ek_bk 3 (P := 3) (ls' := [(0, .int a)]) (st' := [.int 5, .int 0, .int a]) (M' := s_M0) rfl ?_
              refine s_ek_call (ν := s_e181.1) (P := 6) (as := [.int a, .int 0, .int 5]) (r := []) (fun _ => rfl) rfl ?_
              show s_Ek (s_rows 3 L xs) 1297 s_e181.1 0 [(0, .int a), (1, .int 0), (2, .int 5)] [] s_M0 _
              refine s_ek_bk 2 (P := 2) (ls' := [(0, .int a), (1, .int 0), (2, .int 5)]) (st' := [.int 0, .int a]) (M' := s_M0) rfl ?_
              refine s_ek_if2 (T := 14) rfl rfl (fun h7 => ?_) (fun h7 => ?_)
              · replace h7 : a.toInt < 0 := h7
                omega
              · replace h7 : ¬ (a.toInt < 0) := h7
                replace h7 : 0 ≤ a.toInt := by omega
                refine s_ek_bk 2 (P := 7) (ls' := [(0, .int a), (1, .int 0), (2, .int 5)]) (st' := [.int 5, .int a]) (M' := s_M0) rfl ?_
                refine s_ek_if2 (T := 14) rfl rfl (fun h8 => ?_) (fun h8 => ?_)
                · replace h8 : 5 < a.toInt := h8
                  refine s_ek_bk 1 (P := 15) (ls' := [(0, .int a), (1, .int 0), (2, .int 5)]) (st' := [.int 0]) (M' := s_M0) rfl ?_
                  refine s_ek_ret (o := some (.int 0)) (fun _ => rfl) ?_
                  show s_Ek (s_rows 3 L xs) 1298 s_e281.1 6 [(0, .int a)] [.int 0] s_M0 _
                  refine s_ek_ret (o := some (.int 0)) (fun _ => rfl) ?_
                  show s_Ek (s_rows 3 L xs) 1299 s_e251.1 4 [(0, .ref 151), (1, .int a), (2, .int b), (3, .int c)] [.int 0] s_M0 _
                  refine s_ek_bk 2 (P := 27) (ls' := [(0, .ref 151), (1, .int a), (2, .int b), (3, .int c)]) (st' := [.int (-1)]) (M' := s_M0) rfl ?_
                  refine s_ek_ret (o := some (.int (-1))) (fun _ => rfl) ?_
                  exact rfl
                · replace h8 : ¬ (5 < a.toInt) := h8
                  replace h8 : a.toInt ≤ 5 := by omega
                  omega
            · replace h6 : ¬ (6 ≤ a.toInt) := h6
              replace h6 : a.toInt < 6 := by omega
              refine s_ek_bk 2 (P := 15) (ls' := [(0, .int a)]) (st' := [.int 1]) (M' := s_M0) rfl ?_
              refine s_ek_ret (o := some (.int 1)) (fun _ => rfl) ?_
              show s_Ek (s_rows 3 L xs) 1297 s_e177.1 4 [(0, .ref 0), (1, .int a)] [.int 1] s_M0 _
              refine s_ek_bk 3 (P := 11) (ls' := [(0, .ref 0), (1, .int a)]) (st' := [.int a, .ref 0]) (M' := s_M0) rfl ?_
              refine s_ek_call (ν := s_e176.1) (P := 14) (as := [.ref 0, .int a]) (r := []) (fun _ => rfl) rfl ?_
              show s_Ek (s_rows 3 L xs) 1296 s_e176.1 0 [(0, .ref 0), (1, .int a)] [] s_M0 _
              refine s_ek_bk 1 (P := 1) (ls' := [(0, .ref 0), (1, .int a)]) (st' := [.int a]) (M' := s_M0) rfl ?_
              refine s_ek_if1 (T := 22) rfl rfl (fun h7 => ?_) (fun h7 => ?_)
              · replace h7 : a.toInt < 0 := h7
                omega
              · replace h7 : ¬ (a.toInt < 0) := h7
                replace h7 : 0 ≤ a.toInt := by omega
                refine s_ek_bk 4 (P := 10) (ls' := [(0, .ref 0), (1, .int a)]) (st' := [.int 6, .int a]) (M' := s_M0) rfl ?_
                refine s_ek_if2 (T := 22) rfl rfl (fun h8 => ?_) (fun h8 => ?_)
                · replace h8 : 6 ≤ a.toInt := h8
                  omega
                · replace h8 : ¬ (6 ≤ a.toInt) := h8
                  replace h8 : a.toInt < 6 := by omega
                  refine s_ek_bk 3 (P := 18) (ls' := [(0, .ref 0), (1, .int a)]) (st' := [.int a, .ref 135]) (M' := s_M0) rfl ?_
                  rcases s_rg_0_5 (a := a) (by omega) (by omega) with rfl | rfl | rfl | rfl | rfl | rfl
                  · refine s_ek_bk 6 (P := 33) (ls' := [(0, .ref 0), (1, .int 0)]) (st' := [.ref 139]) (M' := s_M0) rfl ?_
                    refine s_ek_ret (o := some (.ref 139)) (fun _ => rfl) ?_
                    show s_Ek (s_rows 3 L xs) 1297 s_e177.1 14 [(0, .ref 0), (1, .int 0)] [.ref 139] s_M0 _
                    refine s_ek_bk 2 (P := 16) (ls' := [(2, .ref 139), (0, .ref 0), (1, .int 0)]) (st' := [.ref 139]) (M' := s_M0) rfl ?_
                    refine s_ek_call (ν := s_e84.1) (P := 19) (as := [.ref 139]) (r := []) (fun _ => rfl) rfl ?_
                    show s_Ek (s_rows 3 L xs) 1296 s_e84.1 0 [(0, .ref 139)] [] s_M0 _
                    refine s_ek_bk 6 (P := 13) (ls' := [(0, .ref 139)]) (st' := [.int 1]) (M' := s_M0) rfl ?_
                    refine s_ek_ret (o := some (.int 1)) (fun _ => rfl) ?_
                    show s_Ek (s_rows 3 L xs) 1297 s_e177.1 19 [(2, .ref 139), (0, .ref 0), (1, .int 0)] [.int 1] s_M0 _
                    refine s_ek_bk 2 (P := 24) (ls' := [(2, .ref 139), (0, .ref 0), (1, .int 0)]) (st' := [.int (-11)]) (M' := s_M0) rfl ?_
                    refine s_ek_ret (o := some (.int (-11))) (fun _ => rfl) ?_
                    show s_Ek (s_rows 3 L xs) 1298 s_e178.1 19 [(0, .ref 0), (1, .int 0), (2, .int b), (3, .int c)] [.int (-11)] s_M0 _
                    refine s_ek_bk 1 (P := 23) (ls' := [(0, .ref 0), (1, .int 0), (2, .int b), (3, .int c)]) (st' := [.int (-11)]) (M' := s_M0) rfl ?_
                    refine s_ek_ret (o := some (.int (-11))) (fun _ => rfl) ?_
                    show s_Ek (s_rows 3 L xs) 1299 s_e149.1 7 [(0, .ref 0), (1, .int 0), (2, .int b), (3, .int c)] [.int (-11)] s_M0 _
                    refine s_ek_bk 4 (P := 16) (ls' := [(4, .int (-11)), (0, .ref 0), (1, .int 0), (2, .int b), (3, .int c)]) (st' := [.int (-11)]) (M' := s_M0) rfl ?_
                    refine s_ek_ret (o := some (.int (-11))) (fun _ => rfl) ?_
                    refine ⟨(-11), rfl, ?_⟩
                    show s_Ek (s_rows 3 L xs) 1299 s_e251.1 0 [(0, .ref 151), (1, .int 0), (2, .int b), (3, .int c)] [] s_M0 _
                    refine s_ek_bk 1 (P := 1) (ls' := [(0, .ref 151), (1, .int 0), (2, .int b), (3, .int c)]) (st' := [.int 0]) (M' := s_M0) rfl ?_
                    refine s_ek_call (ν := s_e281.1) (P := 4) (as := [.int 0]) (r := []) (fun _ => rfl) rfl ?_
                    show s_Ek (s_rows 3 L xs) 1298 s_e281.1 0 [(0, .int 0)] [] s_M0 _
                    refine s_ek_bk 3 (P := 3) (ls' := [(0, .int 0)]) (st' := [.int 5, .int 0, .int 0]) (M' := s_M0) rfl ?_
                    refine s_ek_call (ν := s_e181.1) (P := 6) (as := [.int 0, .int 0, .int 5]) (r := []) (fun _ => rfl) rfl ?_
                    show s_Ek (s_rows 3 L xs) 1297 s_e181.1 0 [(0, .int 0), (1, .int 0), (2, .int 5)] [] s_M0 _
                    refine s_ek_bk 8 (P := 15) (ls' := [(0, .int 0), (1, .int 0), (2, .int 5)]) (st' := [.int 1]) (M' := s_M0) rfl ?_
                    refine s_ek_ret (o := some (.int 1)) (fun _ => rfl) ?_
                    show s_Ek (s_rows 3 L xs) 1298 s_e281.1 6 [(0, .int 0)] [.int 1] s_M0 _
                    refine s_ek_ret (o := some (.int 1)) (fun _ => rfl) ?_
                    show s_Ek (s_rows 3 L xs) 1299 s_e251.1 4 [(0, .ref 151), (1, .int 0), (2, .int b), (3, .int c)] [.int 1] s_M0 _
                    refine s_ek_bk 4 (P := 11) (ls' := [(0, .ref 151), (1, .int 0), (2, .int b), (3, .int c)]) (st' := [.int 99, .int 0, .int b]) (M' := s_M0) rfl ?_
                    refine s_ek_call (ν := s_e181.1) (P := 14) (as := [.int b, .int 0, .int 99]) (r := []) (fun _ => rfl) rfl ?_
                    show s_Ek (s_rows 3 L xs) 1298 s_e181.1 0 [(0, .int b), (1, .int 0), (2, .int 99)] [] s_M0 _
                    refine s_ek_bk 2 (P := 2) (ls' := [(0, .int b), (1, .int 0), (2, .int 99)]) (st' := [.int 0, .int b]) (M' := s_M0) rfl ?_
                    refine s_ek_if2 (T := 14) rfl rfl (fun h9 => ?_) (fun h9 => ?_)
                    · replace h9 : b.toInt < 0 := h9
                      omega
                    · replace h9 : ¬ (b.toInt < 0) := h9
                      replace h9 : 0 ≤ b.toInt := by omega
                      refine s_ek_bk 2 (P := 7) (ls' := [(0, .int b), (1, .int 0), (2, .int 99)]) (st' := [.int 99, .int b]) (M' := s_M0) rfl ?_
                      refine s_ek_if2 (T := 14) rfl rfl (fun h10 => ?_) (fun h10 => ?_)
                      · replace h10 : 99 < b.toInt := h10
                        omega
                      · replace h10 : ¬ (99 < b.toInt) := h10
                        replace h10 : b.toInt ≤ 99 := by omega
                        refine s_ek_bk 2 (P := 15) (ls' := [(0, .int b), (1, .int 0), (2, .int 99)]) (st' := [.int 1]) (M' := s_M0) rfl ?_
                        refine s_ek_ret (o := some (.int 1)) (fun _ => rfl) ?_
                        show s_Ek (s_rows 3 L xs) 1299 s_e251.1 14 [(0, .ref 151), (1, .int 0), (2, .int b), (3, .int c)] [.int 1] s_M0 _
                        refine s_ek_bk 4 (P := 20) (ls' := [(0, .ref 151), (1, .int 0), (2, .int b), (3, .int c)]) (st' := [.int 2, .int 0, .int c]) (M' := s_M0) rfl ?_
                        refine s_ek_call (ν := s_e181.1) (P := 23) (as := [.int c, .int 0, .int 2]) (r := []) (fun _ => rfl) rfl ?_
                        show s_Ek (s_rows 3 L xs) 1298 s_e181.1 0 [(0, .int c), (1, .int 0), (2, .int 2)] [] s_M0 _
                        refine s_ek_bk 2 (P := 2) (ls' := [(0, .int c), (1, .int 0), (2, .int 2)]) (st' := [.int 0, .int c]) (M' := s_M0) rfl ?_
                        refine s_ek_if2 (T := 14) rfl rfl (fun h11 => ?_) (fun h11 => ?_)
                        · replace h11 : c.toInt < 0 := h11
                          omega
                        · replace h11 : ¬ (c.toInt < 0) := h11
                          replace h11 : 0 ≤ c.toInt := by omega
                          refine s_ek_bk 2 (P := 7) (ls' := [(0, .int c), (1, .int 0), (2, .int 2)]) (st' := [.int 2, .int c]) (M' := s_M0) rfl ?_
                          refine s_ek_if2 (T := 14) rfl rfl (fun h12 => ?_) (fun h12 => ?_)
                          · replace h12 : 2 < c.toInt := h12
                            omega
                          · replace h12 : ¬ (2 < c.toInt) := h12
                            replace h12 : c.toInt ≤ 2 := by omega
                            refine s_ek_bk 2 (P := 15) (ls' := [(0, .int c), (1, .int 0), (2, .int 2)]) (st' := [.int 1]) (M' := s_M0) rfl ?_
                            refine s_ek_ret (o := some (.int 1)) (fun _ => rfl) ?_
                            show s_Ek (s_rows 3 L xs) 1299 s_e251.1 23 [(0, .ref 151), (1, .int 0), (2, .int b), (3, .int c)] [.int 1] s_M0 _
                            refine s_ek_bk 3 (P := 30) (ls' := [(0, .ref 151), (1, .int 0), (2, .int b), (3, .int c)]) (st' := [.int 0, .ref 151]) (M' := s_M0) rfl ?_
                            refine s_ek_call (ν := s_e236.1) (P := 33) (as := [.ref 151, .int 0]) (r := []) (fun _ => rfl) rfl ?_
                            show s_Ek (s_rows 3 L xs) 1298 s_e236.1 0 [(0, .ref 151), (1, .int 0)] [] s_M0 _
                            refine s_ek_bk 8 (P := 32) (ls' := [(0, .ref 151), (1, .int 0)]) (st' := [.int (-11)]) (M' := s_M0) rfl ?_
                            refine s_ek_ret (o := some (.int (-11))) (fun _ => rfl) ?_
                            show s_Ek (s_rows 3 L xs) 1299 s_e251.1 33 [(0, .ref 151), (1, .int 0), (2, .int b), (3, .int c)] [.int (-11)] s_M0 _
                            refine s_ek_bk 3 (P := 38) (ls' := [(0, .ref 151), (1, .int 0), (2, .int b), (3, .int c)]) (st' := [.int 0, .ref 151]) (M' := s_M0) rfl ?_
                            refine s_ek_call (ν := s_e236.1) (P := 41) (as := [.ref 151, .int 0]) (r := []) (fun _ => rfl) rfl ?_
                            show s_Ek (s_rows 3 L xs) 1298 s_e236.1 0 [(0, .ref 151), (1, .int 0)] [] s_M0 _
                            refine s_ek_bk 8 (P := 32) (ls' := [(0, .ref 151), (1, .int 0)]) (st' := [.int (-11)]) (M' := s_M0) rfl ?_
                            refine s_ek_ret (o := some (.int (-11))) (fun _ => rfl) ?_
                            show s_Ek (s_rows 3 L xs) 1299 s_e251.1 41 [(0, .ref 151), (1, .int 0), (2, .int b), (3, .int c)] [.int (-11)] s_M0 _
                            refine s_ek_ret (o := some (.int (-11))) (fun _ => rfl) ?_
                            exact rfl
                  · refine s_ek_bk 6 (P := 33) (ls' := [(0, .ref 0), (1, .int 1)]) (st' := [.ref 141]) (M' := s_M0) rfl ?_
                    refine s_ek_ret (o := some (.ref 141)) (fun _ => rfl) ?_
                    show s_Ek (s_rows 3 L xs) 1297 s_e177.1 14 [(0, .ref 0), (1, .int 1)] [.ref 141] s_M0 _
                    refine s_ek_bk 2 (P := 16) (ls' := [(2, .ref 141), (0, .ref 0), (1, .int 1)]) (st' := [.ref 141]) (M' := s_M0) rfl ?_
                    refine s_ek_call (ν := s_e84.1) (P := 19) (as := [.ref 141]) (r := []) (fun _ => rfl) rfl ?_
                    show s_Ek (s_rows 3 L xs) 1296 s_e84.1 0 [(0, .ref 141)] [] s_M0 _
                    refine s_ek_bk 6 (P := 13) (ls' := [(0, .ref 141)]) (st' := [.int 1]) (M' := s_M0) rfl ?_
                    refine s_ek_ret (o := some (.int 1)) (fun _ => rfl) ?_
                    show s_Ek (s_rows 3 L xs) 1297 s_e177.1 19 [(2, .ref 141), (0, .ref 0), (1, .int 1)] [.int 1] s_M0 _
                    refine s_ek_bk 2 (P := 24) (ls' := [(2, .ref 141), (0, .ref 0), (1, .int 1)]) (st' := [.int (-11)]) (M' := s_M0) rfl ?_
                    refine s_ek_ret (o := some (.int (-11))) (fun _ => rfl) ?_
                    show s_Ek (s_rows 3 L xs) 1298 s_e178.1 19 [(0, .ref 0), (1, .int 1), (2, .int b), (3, .int c)] [.int (-11)] s_M0 _
                    refine s_ek_bk 1 (P := 23) (ls' := [(0, .ref 0), (1, .int 1), (2, .int b), (3, .int c)]) (st' := [.int (-11)]) (M' := s_M0) rfl ?_
                    refine s_ek_ret (o := some (.int (-11))) (fun _ => rfl) ?_
                    show s_Ek (s_rows 3 L xs) 1299 s_e149.1 7 [(0, .ref 0), (1, .int 1), (2, .int b), (3, .int c)] [.int (-11)] s_M0 _
                    refine s_ek_bk 4 (P := 16) (ls' := [(4, .int (-11)), (0, .ref 0), (1, .int 1), (2, .int b), (3, .int c)]) (st' := [.int (-11)]) (M' := s_M0) rfl ?_
                    refine s_ek_ret (o := some (.int (-11))) (fun _ => rfl) ?_
                    refine ⟨(-11), rfl, ?_⟩
                    show s_Ek (s_rows 3 L xs) 1299 s_e251.1 0 [(0, .ref 151), (1, .int 1), (2, .int b), (3, .int c)] [] s_M0 _
                    refine s_ek_bk 1 (P := 1) (ls' := [(0, .ref 151), (1, .int 1), (2, .int b), (3, .int c)]) (st' := [.int 1]) (M' := s_M0) rfl ?_
                    refine s_ek_call (ν := s_e281.1) (P := 4) (as := [.int 1]) (r := []) (fun _ => rfl) rfl ?_
                    show s_Ek (s_rows 3 L xs) 1298 s_e281.1 0 [(0, .int 1)] [] s_M0 _
                    refine s_ek_bk 3 (P := 3) (ls' := [(0, .int 1)]) (st' := [.int 5, .int 0, .int 1]) (M' := s_M0) rfl ?_
                    refine s_ek_call (ν := s_e181.1) (P := 6) (as := [.int 1, .int 0, .int 5]) (r := []) (fun _ => rfl) rfl ?_
                    show s_Ek (s_rows 3 L xs) 1297 s_e181.1 0 [(0, .int 1), (1, .int 0), (2, .int 5)] [] s_M0 _
                    refine s_ek_bk 8 (P := 15) (ls' := [(0, .int 1), (1, .int 0), (2, .int 5)]) (st' := [.int 1]) (M' := s_M0) rfl ?_
                    refine s_ek_ret (o := some (.int 1)) (fun _ => rfl) ?_
                    show s_Ek (s_rows 3 L xs) 1298 s_e281.1 6 [(0, .int 1)] [.int 1] s_M0 _
                    refine s_ek_ret (o := some (.int 1)) (fun _ => rfl) ?_
                    show s_Ek (s_rows 3 L xs) 1299 s_e251.1 4 [(0, .ref 151), (1, .int 1), (2, .int b), (3, .int c)] [.int 1] s_M0 _
                    refine s_ek_bk 4 (P := 11) (ls' := [(0, .ref 151), (1, .int 1), (2, .int b), (3, .int c)]) (st' := [.int 99, .int 0, .int b]) (M' := s_M0) rfl ?_
                    refine s_ek_call (ν := s_e181.1) (P := 14) (as := [.int b, .int 0, .int 99]) (r := []) (fun _ => rfl) rfl ?_
                    show s_Ek (s_rows 3 L xs) 1298 s_e181.1 0 [(0, .int b), (1, .int 0), (2, .int 99)] [] s_M0 _
                    refine s_ek_bk 2 (P := 2) (ls' := [(0, .int b), (1, .int 0), (2, .int 99)]) (st' := [.int 0, .int b]) (M' := s_M0) rfl ?_
                    refine s_ek_if2 (T := 14) rfl rfl (fun h9 => ?_) (fun h9 => ?_)
                    · replace h9 : b.toInt < 0 := h9
                      omega
                    · replace h9 : ¬ (b.toInt < 0) := h9
                      replace h9 : 0 ≤ b.toInt := by omega
                      refine s_ek_bk 2 (P := 7) (ls' := [(0, .int b), (1, .int 0), (2, .int 99)]) (st' := [.int 99, .int b]) (M' := s_M0) rfl ?_
                      refine s_ek_if2 (T := 14) rfl rfl (fun h10 => ?_) (fun h10 => ?_)
                      · replace h10 : 99 < b.toInt := h10
                        omega
                      · replace h10 : ¬ (99 < b.toInt) := h10
                        replace h10 : b.toInt ≤ 99 := by omega
                        refine s_ek_bk 2 (P := 15) (ls' := [(0, .int b), (1, .int 0), (2, .int 99)]) (st' := [.int 1]) (M' := s_M0) rfl ?_
                        refine s_ek_ret (o := some (.int 1)) (fun _ => rfl) ?_
                        show s_Ek (s_rows 3 L xs) 1299 s_e251.1 14 [(0, .ref 151), (1, .int 1), (2, .int b), (3, .int c)] [.int 1] s_M0 _
                        refine s_ek_bk 4 (P := 20) (ls' := [(0, .ref 151), (1, .int 1), (2, .int b), (3, .int c)]) (st' := [.int 2, .int 0, .int c]) (M' := s_M0) rfl ?_
                        refine s_ek_call (ν := s_e181.1) (P := 23) (as := [.int c, .int 0, .int 2]) (r := []) (fun _ => rfl) rfl ?_
                        show s_Ek (s_rows 3 L xs) 1298 s_e181.1 0 [(0, .int c), (1, .int 0), (2, .int 2)] [] s_M0 _
                        refine s_ek_bk 2 (P := 2) (ls' := [(0, .int c), (1, .int 0), (2, .int 2)]) (st' := [.int 0, .int c]) (M' := s_M0) rfl ?_
                        refine s_ek_if2 (T := 14) rfl rfl (fun h11 => ?_) (fun h11 => ?_)
                        · replace h11 : c.toInt < 0 := h11
                          omega
                        · replace h11 : ¬ (c.toInt < 0) := h11
                          replace h11 : 0 ≤ c.toInt := by omega
                          refine s_ek_bk 2 (P := 7) (ls' := [(0, .int c), (1, .int 0), (2, .int 2)]) (st' := [.int 2, .int c]) (M' := s_M0) rfl ?_
                          refine s_ek_if2 (T := 14) rfl rfl (fun h12 => ?_) (fun h12 => ?_)
                          · replace h12 : 2 < c.toInt := h12
                            omega
                          · replace h12 : ¬ (2 < c.toInt) := h12
                            replace h12 : c.toInt ≤ 2 := by omega
                            refine s_ek_bk 2 (P := 15) (ls' := [(0, .int c), (1, .int 0), (2, .int 2)]) (st' := [.int 1]) (M' := s_M0) rfl ?_
                            refine s_ek_ret (o := some (.int 1)) (fun _ => rfl) ?_
                            show s_Ek (s_rows 3 L xs) 1299 s_e251.1 23 [(0, .ref 151), (1, .int 1), (2, .int b), (3, .int c)] [.int 1] s_M0 _
                            refine s_ek_bk 3 (P := 30) (ls' := [(0, .ref 151), (1, .int 1), (2, .int b), (3, .int c)]) (st' := [.int 1, .ref 151]) (M' := s_M0) rfl ?_
                            refine s_ek_call (ν := s_e236.1) (P := 33) (as := [.ref 151, .int 1]) (r := []) (fun _ => rfl) rfl ?_
                            show s_Ek (s_rows 3 L xs) 1298 s_e236.1 0 [(0, .ref 151), (1, .int 1)] [] s_M0 _
                            refine s_ek_bk 8 (P := 32) (ls' := [(0, .ref 151), (1, .int 1)]) (st' := [.int (-11)]) (M' := s_M0) rfl ?_
                            refine s_ek_ret (o := some (.int (-11))) (fun _ => rfl) ?_
                            show s_Ek (s_rows 3 L xs) 1299 s_e251.1 33 [(0, .ref 151), (1, .int 1), (2, .int b), (3, .int c)] [.int (-11)] s_M0 _
                            refine s_ek_bk 3 (P := 38) (ls' := [(0, .ref 151), (1, .int 1), (2, .int b), (3, .int c)]) (st' := [.int 1, .ref 151]) (M' := s_M0) rfl ?_
                            refine s_ek_call (ν := s_e236.1) (P := 41) (as := [.ref 151, .int 1]) (r := []) (fun _ => rfl) rfl ?_
                            show s_Ek (s_rows 3 L xs) 1298 s_e236.1 0 [(0, .ref 151), (1, .int 1)] [] s_M0 _
                            refine s_ek_bk 8 (P := 32) (ls' := [(0, .ref 151), (1, .int 1)]) (st' := [.int (-11)]) (M' := s_M0) rfl ?_
                            refine s_ek_ret (o := some (.int (-11))) (fun _ => rfl) ?_
                            show s_Ek (s_rows 3 L xs) 1299 s_e251.1 41 [(0, .ref 151), (1, .int 1), (2, .int b), (3, .int c)] [.int (-11)] s_M0 _
                            refine s_ek_ret (o := some (.int (-11))) (fun _ => rfl) ?_
                            exact rfl
                  · refine s_ek_bk 6 (P := 33) (ls' := [(0, .ref 0), (1, .int 2)]) (st' := [.ref 143]) (M' := s_M0) rfl ?_
                    refine s_ek_ret (o := some (.ref 143)) (fun _ => rfl) ?_
                    show s_Ek (s_rows 3 L xs) 1297 s_e177.1 14 [(0, .ref 0), (1, .int 2)] [.ref 143] s_M0 _
                    refine s_ek_bk 2 (P := 16) (ls' := [(2, .ref 143), (0, .ref 0), (1, .int 2)]) (st' := [.ref 143]) (M' := s_M0) rfl ?_
                    refine s_ek_call (ν := s_e84.1) (P := 19) (as := [.ref 143]) (r := []) (fun _ => rfl) rfl ?_
                    show s_Ek (s_rows 3 L xs) 1296 s_e84.1 0 [(0, .ref 143)] [] s_M0 _
                    refine s_ek_bk 6 (P := 13) (ls' := [(0, .ref 143)]) (st' := [.int 1]) (M' := s_M0) rfl ?_
                    refine s_ek_ret (o := some (.int 1)) (fun _ => rfl) ?_
                    show s_Ek (s_rows 3 L xs) 1297 s_e177.1 19 [(2, .ref 143), (0, .ref 0), (1, .int 2)] [.int 1] s_M0 _
                    refine s_ek_bk 2 (P := 24) (ls' := [(2, .ref 143), (0, .ref 0), (1, .int 2)]) (st' := [.int (-11)]) (M' := s_M0) rfl ?_
                    refine s_ek_ret (o := some (.int (-11))) (fun _ => rfl) ?_
                    show s_Ek (s_rows 3 L xs) 1298 s_e178.1 19 [(0, .ref 0), (1, .int 2), (2, .int b), (3, .int c)] [.int (-11)] s_M0 _
                    refine s_ek_bk 1 (P := 23) (ls' := [(0, .ref 0), (1, .int 2), (2, .int b), (3, .int c)]) (st' := [.int (-11)]) (M' := s_M0) rfl ?_
                    refine s_ek_ret (o := some (.int (-11))) (fun _ => rfl) ?_
                    show s_Ek (s_rows 3 L xs) 1299 s_e149.1 7 [(0, .ref 0), (1, .int 2), (2, .int b), (3, .int c)] [.int (-11)] s_M0 _
                    refine s_ek_bk 4 (P := 16) (ls' := [(4, .int (-11)), (0, .ref 0), (1, .int 2), (2, .int b), (3, .int c)]) (st' := [.int (-11)]) (M' := s_M0) rfl ?_
                    refine s_ek_ret (o := some (.int (-11))) (fun _ => rfl) ?_
                    refine ⟨(-11), rfl, ?_⟩
                    show s_Ek (s_rows 3 L xs) 1299 s_e251.1 0 [(0, .ref 151), (1, .int 2), (2, .int b), (3, .int c)] [] s_M0 _
                    refine s_ek_bk 1 (P := 1) (ls' := [(0, .ref 151), (1, .int 2), (2, .int b), (3, .int c)]) (st' := [.int 2]) (M' := s_M0) rfl ?_
                    refine s_ek_call (ν := s_e281.1) (P := 4) (as := [.int 2]) (r := []) (fun _ => rfl) rfl ?_
                    show s_Ek (s_rows 3 L xs) 1298 s_e281.1 0 [(0, .int 2)] [] s_M0 _
                    refine s_ek_bk 3 (P := 3) (ls' := [(0, .int 2)]) (st' := [.int 5, .int 0, .int 2]) (M' := s_M0) rfl ?_
                    refine s_ek_call (ν := s_e181.1) (P := 6) (as := [.int 2, .int 0, .int 5]) (r := []) (fun _ => rfl) rfl ?_
                    show s_Ek (s_rows 3 L xs) 1297 s_e181.1 0 [(0, .int 2), (1, .int 0), (2, .int 5)] [] s_M0 _
                    refine s_ek_bk 8 (P := 15) (ls' := [(0, .int 2), (1, .int 0), (2, .int 5)]) (st' := [.int 1]) (M' := s_M0) rfl ?_
                    refine s_ek_ret (o := some (.int 1)) (fun _ => rfl) ?_
                    show s_Ek (s_rows 3 L xs) 1298 s_e281.1 6 [(0, .int 2)] [.int 1] s_M0 _
                    refine s_ek_ret (o := some (.int 1)) (fun _ => rfl) ?_
                    show s_Ek (s_rows 3 L xs) 1299 s_e251.1 4 [(0, .ref 151), (1, .int 2), (2, .int b), (3, .int c)] [.int 1] s_M0 _
                    refine s_ek_bk 4 (P := 11) (ls' := [(0, .ref 151), (1, .int 2), (2, .int b), (3, .int c)]) (st' := [.int 99, .int 0, .int b]) (M' := s_M0) rfl ?_
                    refine s_ek_call (ν := s_e181.1) (P := 14) (as := [.int b, .int 0, .int 99]) (r := []) (fun _ => rfl) rfl ?_
                    show s_Ek (s_rows 3 L xs) 1298 s_e181.1 0 [(0, .int b), (1, .int 0), (2, .int 99)] [] s_M0 _
                    refine s_ek_bk 2 (P := 2) (ls' := [(0, .int b), (1, .int 0), (2, .int 99)]) (st' := [.int 0, .int b]) (M' := s_M0) rfl ?_
                    refine s_ek_if2 (T := 14) rfl rfl (fun h9 => ?_) (fun h9 => ?_)
                    · replace h9 : b.toInt < 0 := h9
                      omega
                    · replace h9 : ¬ (b.toInt < 0) := h9
                      replace h9 : 0 ≤ b.toInt := by omega
                      refine s_ek_bk 2 (P := 7) (ls' := [(0, .int b), (1, .int 0), (2, .int 99)]) (st' := [.int 99, .int b]) (M' := s_M0) rfl ?_
                      refine s_ek_if2 (T := 14) rfl rfl (fun h10 => ?_) (fun h10 => ?_)
                      · replace h10 : 99 < b.toInt := h10
                        omega
                      · replace h10 : ¬ (99 < b.toInt) := h10
                        replace h10 : b.toInt ≤ 99 := by omega
                        refine s_ek_bk 2 (P := 15) (ls' := [(0, .int b), (1, .int 0), (2, .int 99)]) (st' := [.int 1]) (M' := s_M0) rfl ?_
                        refine s_ek_ret (o := some (.int 1)) (fun _ => rfl) ?_
                        show s_Ek (s_rows 3 L xs) 1299 s_e251.1 14 [(0, .ref 151), (1, .int 2), (2, .int b), (3, .int c)] [.int 1] s_M0 _
                        refine s_ek_bk 4 (P := 20) (ls' := [(0, .ref 151), (1, .int 2), (2, .int b), (3, .int c)]) (st' := [.int 2, .int 0, .int c]) (M' := s_M0) rfl ?_
                        refine s_ek_call (ν := s_e181.1) (P := 23) (as := [.int c, .int 0, .int 2]) (r := []) (fun _ => rfl) rfl ?_
                        show s_Ek (s_rows 3 L xs) 1298 s_e181.1 0 [(0, .int c), (1, .int 0), (2, .int 2)] [] s_M0 _
                        refine s_ek_bk 2 (P := 2) (ls' := [(0, .int c), (1, .int 0), (2, .int 2)]) (st' := [.int 0, .int c]) (M' := s_M0) rfl ?_
                        refine s_ek_if2 (T := 14) rfl rfl (fun h11 => ?_) (fun h11 => ?_)
                        · replace h11 : c.toInt < 0 := h11
                          omega
                        · replace h11 : ¬ (c.toInt < 0) := h11
                          replace h11 : 0 ≤ c.toInt := by omega
                          refine s_ek_bk 2 (P := 7) (ls' := [(0, .int c), (1, .int 0), (2, .int 2)]) (st' := [.int 2, .int c]) (M' := s_M0) rfl ?_
                          refine s_ek_if2 (T := 14) rfl rfl (fun h12 => ?_) (fun h12 => ?_)
                          · replace h12 : 2 < c.toInt := h12
                            omega
                          · replace h12 : ¬ (2 < c.toInt) := h12
                            replace h12 : c.toInt ≤ 2 := by omega
                            refine s_ek_bk 2 (P := 15) (ls' := [(0, .int c), (1, .int 0), (2, .int 2)]) (st' := [.int 1]) (M' := s_M0) rfl ?_
                            refine s_ek_ret (o := some (.int 1)) (fun _ => rfl) ?_
                            show s_Ek (s_rows 3 L xs) 1299 s_e251.1 23 [(0, .ref 151), (1, .int 2), (2, .int b), (3, .int c)] [.int 1] s_M0 _
                            refine s_ek_bk 3 (P := 30) (ls' := [(0, .ref 151), (1, .int 2), (2, .int b), (3, .int c)]) (st' := [.int 2, .ref 151]) (M' := s_M0) rfl ?_
                            refine s_ek_call (ν := s_e236.1) (P := 33) (as := [.ref 151, .int 2]) (r := []) (fun _ => rfl) rfl ?_
                            show s_Ek (s_rows 3 L xs) 1298 s_e236.1 0 [(0, .ref 151), (1, .int 2)] [] s_M0 _
                            refine s_ek_bk 8 (P := 32) (ls' := [(0, .ref 151), (1, .int 2)]) (st' := [.int (-11)]) (M' := s_M0) rfl ?_
                            refine s_ek_ret (o := some (.int (-11))) (fun _ => rfl) ?_
                            show s_Ek (s_rows 3 L xs) 1299 s_e251.1 33 [(0, .ref 151), (1, .int 2), (2, .int b), (3, .int c)] [.int (-11)] s_M0 _
                            refine s_ek_bk 3 (P := 38) (ls' := [(0, .ref 151), (1, .int 2), (2, .int b), (3, .int c)]) (st' := [.int 2, .ref 151]) (M' := s_M0) rfl ?_
                            refine s_ek_call (ν := s_e236.1) (P := 41) (as := [.ref 151, .int 2]) (r := []) (fun _ => rfl) rfl ?_
                            show s_Ek (s_rows 3 L xs) 1298 s_e236.1 0 [(0, .ref 151), (1, .int 2)] [] s_M0 _
                            refine s_ek_bk 8 (P := 32) (ls' := [(0, .ref 151), (1, .int 2)]) (st' := [.int (-11)]) (M' := s_M0) rfl ?_
                            refine s_ek_ret (o := some (.int (-11))) (fun _ => rfl) ?_
                            show s_Ek (s_rows 3 L xs) 1299 s_e251.1 41 [(0, .ref 151), (1, .int 2), (2, .int b), (3, .int c)] [.int (-11)] s_M0 _
                            refine s_ek_ret (o := some (.int (-11))) (fun _ => rfl) ?_
                            exact rfl
                  · refine s_ek_bk 6 (P := 33) (ls' := [(0, .ref 0), (1, .int 3)]) (st' := [.ref 145]) (M' := s_M0) rfl ?_
                    refine s_ek_ret (o := some (.ref 145)) (fun _ => rfl) ?_
                    show s_Ek (s_rows 3 L xs) 1297 s_e177.1 14 [(0, .ref 0), (1, .int 3)] [.ref 145] s_M0 _
                    refine s_ek_bk 2 (P := 16) (ls' := [(2, .ref 145), (0, .ref 0), (1, .int 3)]) (st' := [.ref 145]) (M' := s_M0) rfl ?_
                    refine s_ek_call (ν := s_e84.1) (P := 19) (as := [.ref 145]) (r := []) (fun _ => rfl) rfl ?_
                    show s_Ek (s_rows 3 L xs) 1296 s_e84.1 0 [(0, .ref 145)] [] s_M0 _
                    refine s_ek_bk 6 (P := 13) (ls' := [(0, .ref 145)]) (st' := [.int 1]) (M' := s_M0) rfl ?_
                    refine s_ek_ret (o := some (.int 1)) (fun _ => rfl) ?_
                    show s_Ek (s_rows 3 L xs) 1297 s_e177.1 19 [(2, .ref 145), (0, .ref 0), (1, .int 3)] [.int 1] s_M0 _
                    refine s_ek_bk 2 (P := 24) (ls' := [(2, .ref 145), (0, .ref 0), (1, .int 3)]) (st' := [.int (-11)]) (M' := s_M0) rfl ?_
                    refine s_ek_ret (o := some (.int (-11))) (fun _ => rfl) ?_
                    show s_Ek (s_rows 3 L xs) 1298 s_e178.1 19 [(0, .ref 0), (1, .int 3), (2, .int b), (3, .int c)] [.int (-11)] s_M0 _
                    refine s_ek_bk 1 (P := 23) (ls' := [(0, .ref 0), (1, .int 3), (2, .int b), (3, .int c)]) (st' := [.int (-11)]) (M' := s_M0) rfl ?_
                    refine s_ek_ret (o := some (.int (-11))) (fun _ => rfl) ?_
                    show s_Ek (s_rows 3 L xs) 1299 s_e149.1 7 [(0, .ref 0), (1, .int 3), (2, .int b), (3, .int c)] [.int (-11)] s_M0 _
                    refine s_ek_bk 4 (P := 16) (ls' := [(4, .int (-11)), (0, .ref 0), (1, .int 3), (2, .int b), (3, .int c)]) (st' := [.int (-11)]) (M' := s_M0) rfl ?_
                    refine s_ek_ret (o := some (.int (-11))) (fun _ => rfl) ?_
                    refine ⟨(-11), rfl, ?_⟩
                    show s_Ek (s_rows 3 L xs) 1299 s_e251.1 0 [(0, .ref 151), (1, .int 3), (2, .int b), (3, .int c)] [] s_M0 _
                    refine s_ek_bk 1 (P := 1) (ls' := [(0, .ref 151), (1, .int 3), (2, .int b), (3, .int c)]) (st' := [.int 3]) (M' := s_M0) rfl ?_
                    refine s_ek_call (ν := s_e281.1) (P := 4) (as := [.int 3]) (r := []) (fun _ => rfl) rfl ?_
                    show s_Ek (s_rows 3 L xs) 1298 s_e281.1 0 [(0, .int 3)] [] s_M0 _
                    refine s_ek_bk 3 (P := 3) (ls' := [(0, .int 3)]) (st' := [.int 5, .int 0, .int 3]) (M' := s_M0) rfl ?_
                    refine s_ek_call (ν := s_e181.1) (P := 6) (as := [.int 3, .int 0, .int 5]) (r := []) (fun _ => rfl) rfl ?_
                    show s_Ek (s_rows 3 L xs) 1297 s_e181.1 0 [(0, .int 3), (1, .int 0), (2, .int 5)] [] s_M0 _
                    refine s_ek_bk 8 (P := 15) (ls' := [(0, .int 3), (1, .int 0), (2, .int 5)]) (st' := [.int 1]) (M' := s_M0) rfl ?_
                    refine s_ek_ret (o := some (.int 1)) (fun _ => rfl) ?_
                    show s_Ek (s_rows 3 L xs) 1298 s_e281.1 6 [(0, .int 3)] [.int 1] s_M0 _
                    refine s_ek_ret (o := some (.int 1)) (fun _ => rfl) ?_
                    show s_Ek (s_rows 3 L xs) 1299 s_e251.1 4 [(0, .ref 151), (1, .int 3), (2, .int b), (3, .int c)] [.int 1] s_M0 _
                    refine s_ek_bk 4 (P := 11) (ls' := [(0, .ref 151), (1, .int 3), (2, .int b), (3, .int c)]) (st' := [.int 99, .int 0, .int b]) (M' := s_M0) rfl ?_
                    refine s_ek_call (ν := s_e181.1) (P := 14) (as := [.int b, .int 0, .int 99]) (r := []) (fun _ => rfl) rfl ?_
                    show s_Ek (s_rows 3 L xs) 1298 s_e181.1 0 [(0, .int b), (1, .int 0), (2, .int 99)] [] s_M0 _
                    refine s_ek_bk 2 (P := 2) (ls' := [(0, .int b), (1, .int 0), (2, .int 99)]) (st' := [.int 0, .int b]) (M' := s_M0) rfl ?_
                    refine s_ek_if2 (T := 14) rfl rfl (fun h9 => ?_) (fun h9 => ?_)
                    · replace h9 : b.toInt < 0 := h9
                      omega
                    · replace h9 : ¬ (b.toInt < 0) := h9
                      replace h9 : 0 ≤ b.toInt := by omega
                      refine s_ek_bk 2 (P := 7) (ls' := [(0, .int b), (1, .int 0), (2, .int 99)]) (st' := [.int 99, .int b]) (M' := s_M0) rfl ?_
                      refine s_ek_if2 (T := 14) rfl rfl (fun h10 => ?_) (fun h10 => ?_)
                      · replace h10 : 99 < b.toInt := h10
                        omega
                      · replace h10 : ¬ (99 < b.toInt) := h10
                        replace h10 : b.toInt ≤ 99 := by omega
                        refine s_ek_bk 2 (P := 15) (ls' := [(0, .int b), (1, .int 0), (2, .int 99)]) (st' := [.int 1]) (M' := s_M0) rfl ?_
                        refine s_ek_ret (o := some (.int 1)) (fun _ => rfl) ?_
                        show s_Ek (s_rows 3 L xs) 1299 s_e251.1 14 [(0, .ref 151), (1, .int 3), (2, .int b), (3, .int c)] [.int 1] s_M0 _
                        refine s_ek_bk 4 (P := 20) (ls' := [(0, .ref 151), (1, .int 3), (2, .int b), (3, .int c)]) (st' := [.int 2, .int 0, .int c]) (M' := s_M0) rfl ?_
                        refine s_ek_call (ν := s_e181.1) (P := 23) (as := [.int c, .int 0, .int 2]) (r := []) (fun _ => rfl) rfl ?_
                        show s_Ek (s_rows 3 L xs) 1298 s_e181.1 0 [(0, .int c), (1, .int 0), (2, .int 2)] [] s_M0 _
                        refine s_ek_bk 2 (P := 2) (ls' := [(0, .int c), (1, .int 0), (2, .int 2)]) (st' := [.int 0, .int c]) (M' := s_M0) rfl ?_
                        refine s_ek_if2 (T := 14) rfl rfl (fun h11 => ?_) (fun h11 => ?_)
                        · replace h11 : c.toInt < 0 := h11
                          omega
                        · replace h11 : ¬ (c.toInt < 0) := h11
                          replace h11 : 0 ≤ c.toInt := by omega
                          refine s_ek_bk 2 (P := 7) (ls' := [(0, .int c), (1, .int 0), (2, .int 2)]) (st' := [.int 2, .int c]) (M' := s_M0) rfl ?_
                          refine s_ek_if2 (T := 14) rfl rfl (fun h12 => ?_) (fun h12 => ?_)
                          · replace h12 : 2 < c.toInt := h12
                            omega
                          · replace h12 : ¬ (2 < c.toInt) := h12
                            replace h12 : c.toInt ≤ 2 := by omega
                            refine s_ek_bk 2 (P := 15) (ls' := [(0, .int c), (1, .int 0), (2, .int 2)]) (st' := [.int 1]) (M' := s_M0) rfl ?_
                            refine s_ek_ret (o := some (.int 1)) (fun _ => rfl) ?_
                            show s_Ek (s_rows 3 L xs) 1299 s_e251.1 23 [(0, .ref 151), (1, .int 3), (2, .int b), (3, .int c)] [.int 1] s_M0 _
                            refine s_ek_bk 3 (P := 30) (ls' := [(0, .ref 151), (1, .int 3), (2, .int b), (3, .int c)]) (st' := [.int 3, .ref 151]) (M' := s_M0) rfl ?_
                            refine s_ek_call (ν := s_e236.1) (P := 33) (as := [.ref 151, .int 3]) (r := []) (fun _ => rfl) rfl ?_
                            show s_Ek (s_rows 3 L xs) 1298 s_e236.1 0 [(0, .ref 151), (1, .int 3)] [] s_M0 _
                            refine s_ek_bk 8 (P := 32) (ls' := [(0, .ref 151), (1, .int 3)]) (st' := [.int (-11)]) (M' := s_M0) rfl ?_
                            refine s_ek_ret (o := some (.int (-11))) (fun _ => rfl) ?_
                            show s_Ek (s_rows 3 L xs) 1299 s_e251.1 33 [(0, .ref 151), (1, .int 3), (2, .int b), (3, .int c)] [.int (-11)] s_M0 _
                            refine s_ek_bk 3 (P := 38) (ls' := [(0, .ref 151), (1, .int 3), (2, .int b), (3, .int c)]) (st' := [.int 3, .ref 151]) (M' := s_M0) rfl ?_
                            refine s_ek_call (ν := s_e236.1) (P := 41) (as := [.ref 151, .int 3]) (r := []) (fun _ => rfl) rfl ?_
                            show s_Ek (s_rows 3 L xs) 1298 s_e236.1 0 [(0, .ref 151), (1, .int 3)] [] s_M0 _
                            refine s_ek_bk 8 (P := 32) (ls' := [(0, .ref 151), (1, .int 3)]) (st' := [.int (-11)]) (M' := s_M0) rfl ?_
                            refine s_ek_ret (o := some (.int (-11))) (fun _ => rfl) ?_
                            show s_Ek (s_rows 3 L xs) 1299 s_e251.1 41 [(0, .ref 151), (1, .int 3), (2, .int b), (3, .int c)] [.int (-11)] s_M0 _
                            refine s_ek_ret (o := some (.int (-11))) (fun _ => rfl) ?_
                            exact rfl
                  · refine s_ek_bk 6 (P := 33) (ls' := [(0, .ref 0), (1, .int 4)]) (st' := [.ref 147]) (M' := s_M0) rfl ?_
                    refine s_ek_ret (o := some (.ref 147)) (fun _ => rfl) ?_
                    show s_Ek (s_rows 3 L xs) 1297 s_e177.1 14 [(0, .ref 0), (1, .int 4)] [.ref 147] s_M0 _
                    refine s_ek_bk 2 (P := 16) (ls' := [(2, .ref 147), (0, .ref 0), (1, .int 4)]) (st' := [.ref 147]) (M' := s_M0) rfl ?_
                    refine s_ek_call (ν := s_e84.1) (P := 19) (as := [.ref 147]) (r := []) (fun _ => rfl) rfl ?_
                    show s_Ek (s_rows 3 L xs) 1296 s_e84.1 0 [(0, .ref 147)] [] s_M0 _
                    refine s_ek_bk 6 (P := 13) (ls' := [(0, .ref 147)]) (st' := [.int 1]) (M' := s_M0) rfl ?_
                    refine s_ek_ret (o := some (.int 1)) (fun _ => rfl) ?_
                    show s_Ek (s_rows 3 L xs) 1297 s_e177.1 19 [(2, .ref 147), (0, .ref 0), (1, .int 4)] [.int 1] s_M0 _
                    refine s_ek_bk 2 (P := 24) (ls' := [(2, .ref 147), (0, .ref 0), (1, .int 4)]) (st' := [.int (-11)]) (M' := s_M0) rfl ?_
                    refine s_ek_ret (o := some (.int (-11))) (fun _ => rfl) ?_
                    show s_Ek (s_rows 3 L xs) 1298 s_e178.1 19 [(0, .ref 0), (1, .int 4), (2, .int b), (3, .int c)] [.int (-11)] s_M0 _
                    refine s_ek_bk 1 (P := 23) (ls' := [(0, .ref 0), (1, .int 4), (2, .int b), (3, .int c)]) (st' := [.int (-11)]) (M' := s_M0) rfl ?_
                    refine s_ek_ret (o := some (.int (-11))) (fun _ => rfl) ?_
                    show s_Ek (s_rows 3 L xs) 1299 s_e149.1 7 [(0, .ref 0), (1, .int 4), (2, .int b), (3, .int c)] [.int (-11)] s_M0 _
                    refine s_ek_bk 4 (P := 16) (ls' := [(4, .int (-11)), (0, .ref 0), (1, .int 4), (2, .int b), (3, .int c)]) (st' := [.int (-11)]) (M' := s_M0) rfl ?_
                    refine s_ek_ret (o := some (.int (-11))) (fun _ => rfl) ?_
                    refine ⟨(-11), rfl, ?_⟩
                    show s_Ek (s_rows 3 L xs) 1299 s_e251.1 0 [(0, .ref 151), (1, .int 4), (2, .int b), (3, .int c)] [] s_M0 _
                    refine s_ek_bk 1 (P := 1) (ls' := [(0, .ref 151), (1, .int 4), (2, .int b), (3, .int c)]) (st' := [.int 4]) (M' := s_M0) rfl ?_
                    refine s_ek_call (ν := s_e281.1) (P := 4) (as := [.int 4]) (r := []) (fun _ => rfl) rfl ?_
                    show s_Ek (s_rows 3 L xs) 1298 s_e281.1 0 [(0, .int 4)] [] s_M0 _
                    refine s_ek_bk 3 (P := 3) (ls' := [(0, .int 4)]) (st' := [.int 5, .int 0, .int 4]) (M' := s_M0) rfl ?_
                    refine s_ek_call (ν := s_e181.1) (P := 6) (as := [.int 4, .int 0, .int 5]) (r := []) (fun _ => rfl) rfl ?_
                    show s_Ek (s_rows 3 L xs) 1297 s_e181.1 0 [(0, .int 4), (1, .int 0), (2, .int 5)] [] s_M0 _
                    refine s_ek_bk 8 (P := 15) (ls' := [(0, .int 4), (1, .int 0), (2, .int 5)]) (st' := [.int 1]) (M' := s_M0) rfl ?_
                    refine s_ek_ret (o := some (.int 1)) (fun _ => rfl) ?_
                    show s_Ek (s_rows 3 L xs) 1298 s_e281.1 6 [(0, .int 4)] [.int 1] s_M0 _
                    refine s_ek_ret (o := some (.int 1)) (fun _ => rfl) ?_
                    show s_Ek (s_rows 3 L xs) 1299 s_e251.1 4 [(0, .ref 151), (1, .int 4), (2, .int b), (3, .int c)] [.int 1] s_M0 _
                    refine s_ek_bk 4 (P := 11) (ls' := [(0, .ref 151), (1, .int 4), (2, .int b), (3, .int c)]) (st' := [.int 99, .int 0, .int b]) (M' := s_M0) rfl ?_
                    refine s_ek_call (ν := s_e181.1) (P := 14) (as := [.int b, .int 0, .int 99]) (r := []) (fun _ => rfl) rfl ?_
                    show s_Ek (s_rows 3 L xs) 1298 s_e181.1 0 [(0, .int b), (1, .int 0), (2, .int 99)] [] s_M0 _
                    refine s_ek_bk 2 (P := 2) (ls' := [(0, .int b), (1, .int 0), (2, .int 99)]) (st' := [.int 0, .int b]) (M' := s_M0) rfl ?_
                    refine s_ek_if2 (T := 14) rfl rfl (fun h9 => ?_) (fun h9 => ?_)
                    · replace h9 : b.toInt < 0 := h9
                      omega
                    · replace h9 : ¬ (b.toInt < 0) := h9
                      replace h9 : 0 ≤ b.toInt := by omega
                      refine s_ek_bk 2 (P := 7) (ls' := [(0, .int b), (1, .int 0), (2, .int 99)]) (st' := [.int 99, .int b]) (M' := s_M0) rfl ?_
                      refine s_ek_if2 (T := 14) rfl rfl (fun h10 => ?_) (fun h10 => ?_)
                      · replace h10 : 99 < b.toInt := h10
                        omega
                      · replace h10 : ¬ (99 < b.toInt) := h10
                        replace h10 : b.toInt ≤ 99 := by omega
                        refine s_ek_bk 2 (P := 15) (ls' := [(0, .int b), (1, .int 0), (2, .int 99)]) (st' := [.int 1]) (M' := s_M0) rfl ?_
                        refine s_ek_ret (o := some (.int 1)) (fun _ => rfl) ?_
                        show s_Ek (s_rows 3 L xs) 1299 s_e251.1 14 [(0, .ref 151), (1, .int 4), (2, .int b), (3, .int c)] [.int 1] s_M0 _
                        refine s_ek_bk 4 (P := 20) (ls' := [(0, .ref 151), (1, .int 4), (2, .int b), (3, .int c)]) (st' := [.int 2, .int 0, .int c]) (M' := s_M0) rfl ?_
                        refine s_ek_call (ν := s_e181.1) (P := 23) (as := [.int c, .int 0, .int 2]) (r := []) (fun _ => rfl) rfl ?_
                        show s_Ek (s_rows 3 L xs) 1298 s_e181.1 0 [(0, .int c), (1, .int 0), (2, .int 2)] [] s_M0 _
                        refine s_ek_bk 2 (P := 2) (ls' := [(0, .int c), (1, .int 0), (2, .int 2)]) (st' := [.int 0, .int c]) (M' := s_M0) rfl ?_
                        refine s_ek_if2 (T := 14) rfl rfl (fun h11 => ?_) (fun h11 => ?_)
                        · replace h11 : c.toInt < 0 := h11
                          omega
                        · replace h11 : ¬ (c.toInt < 0) := h11
                          replace h11 : 0 ≤ c.toInt := by omega
                          refine s_ek_bk 2 (P := 7) (ls' := [(0, .int c), (1, .int 0), (2, .int 2)]) (st' := [.int 2, .int c]) (M' := s_M0) rfl ?_
                          refine s_ek_if2 (T := 14) rfl rfl (fun h12 => ?_) (fun h12 => ?_)
                          · replace h12 : 2 < c.toInt := h12
                            omega
                          · replace h12 : ¬ (2 < c.toInt) := h12
                            replace h12 : c.toInt ≤ 2 := by omega
                            refine s_ek_bk 2 (P := 15) (ls' := [(0, .int c), (1, .int 0), (2, .int 2)]) (st' := [.int 1]) (M' := s_M0) rfl ?_
                            refine s_ek_ret (o := some (.int 1)) (fun _ => rfl) ?_
                            show s_Ek (s_rows 3 L xs) 1299 s_e251.1 23 [(0, .ref 151), (1, .int 4), (2, .int b), (3, .int c)] [.int 1] s_M0 _
                            refine s_ek_bk 3 (P := 30) (ls' := [(0, .ref 151), (1, .int 4), (2, .int b), (3, .int c)]) (st' := [.int 4, .ref 151]) (M' := s_M0) rfl ?_
                            refine s_ek_call (ν := s_e236.1) (P := 33) (as := [.ref 151, .int 4]) (r := []) (fun _ => rfl) rfl ?_
                            show s_Ek (s_rows 3 L xs) 1298 s_e236.1 0 [(0, .ref 151), (1, .int 4)] [] s_M0 _
                            refine s_ek_bk 8 (P := 32) (ls' := [(0, .ref 151), (1, .int 4)]) (st' := [.int (-11)]) (M' := s_M0) rfl ?_
                            refine s_ek_ret (o := some (.int (-11))) (fun _ => rfl) ?_
                            show s_Ek (s_rows 3 L xs) 1299 s_e251.1 33 [(0, .ref 151), (1, .int 4), (2, .int b), (3, .int c)] [.int (-11)] s_M0 _
                            refine s_ek_bk 3 (P := 38) (ls' := [(0, .ref 151), (1, .int 4), (2, .int b), (3, .int c)]) (st' := [.int 4, .ref 151]) (M' := s_M0) rfl ?_
                            refine s_ek_call (ν := s_e236.1) (P := 41) (as := [.ref 151, .int 4]) (r := []) (fun _ => rfl) rfl ?_
                            show s_Ek (s_rows 3 L xs) 1298 s_e236.1 0 [(0, .ref 151), (1, .int 4)] [] s_M0 _
                            refine s_ek_bk 8 (P := 32) (ls' := [(0, .ref 151), (1, .int 4)]) (st' := [.int (-11)]) (M' := s_M0) rfl ?_
                            refine s_ek_ret (o := some (.int (-11))) (fun _ => rfl) ?_
                            show s_Ek (s_rows 3 L xs) 1299 s_e251.1 41 [(0, .ref 151), (1, .int 4), (2, .int b), (3, .int c)] [.int (-11)] s_M0 _
                            refine s_ek_ret (o := some (.int (-11))) (fun _ => rfl) ?_
                            exact rfl
                  · refine s_ek_bk 6 (P := 33) (ls' := [(0, .ref 0), (1, .int 5)]) (st' := [.ref 149]) (M' := s_M0) rfl ?_
                    refine s_ek_ret (o := some (.ref 149)) (fun _ => rfl) ?_
                    show s_Ek (s_rows 3 L xs) 1297 s_e177.1 14 [(0, .ref 0), (1, .int 5)] [.ref 149] s_M0 _
                    refine s_ek_bk 2 (P := 16) (ls' := [(2, .ref 149), (0, .ref 0), (1, .int 5)]) (st' := [.ref 149]) (M' := s_M0) rfl ?_
                    refine s_ek_call (ν := s_e84.1) (P := 19) (as := [.ref 149]) (r := []) (fun _ => rfl) rfl ?_
                    show s_Ek (s_rows 3 L xs) 1296 s_e84.1 0 [(0, .ref 149)] [] s_M0 _
                    refine s_ek_bk 6 (P := 13) (ls' := [(0, .ref 149)]) (st' := [.int 1]) (M' := s_M0) rfl ?_
                    refine s_ek_ret (o := some (.int 1)) (fun _ => rfl) ?_
                    show s_Ek (s_rows 3 L xs) 1297 s_e177.1 19 [(2, .ref 149), (0, .ref 0), (1, .int 5)] [.int 1] s_M0 _
                    refine s_ek_bk 2 (P := 24) (ls' := [(2, .ref 149), (0, .ref 0), (1, .int 5)]) (st' := [.int (-11)]) (M' := s_M0) rfl ?_
                    refine s_ek_ret (o := some (.int (-11))) (fun _ => rfl) ?_
                    show s_Ek (s_rows 3 L xs) 1298 s_e178.1 19 [(0, .ref 0), (1, .int 5), (2, .int b), (3, .int c)] [.int (-11)] s_M0 _
                    refine s_ek_bk 1 (P := 23) (ls' := [(0, .ref 0), (1, .int 5), (2, .int b), (3, .int c)]) (st' := [.int (-11)]) (M' := s_M0) rfl ?_
                    refine s_ek_ret (o := some (.int (-11))) (fun _ => rfl) ?_
                    show s_Ek (s_rows 3 L xs) 1299 s_e149.1 7 [(0, .ref 0), (1, .int 5), (2, .int b), (3, .int c)] [.int (-11)] s_M0 _
                    refine s_ek_bk 4 (P := 16) (ls' := [(4, .int (-11)), (0, .ref 0), (1, .int 5), (2, .int b), (3, .int c)]) (st' := [.int (-11)]) (M' := s_M0) rfl ?_
                    refine s_ek_ret (o := some (.int (-11))) (fun _ => rfl) ?_
                    refine ⟨(-11), rfl, ?_⟩
                    show s_Ek (s_rows 3 L xs) 1299 s_e251.1 0 [(0, .ref 151), (1, .int 5), (2, .int b), (3, .int c)] [] s_M0 _
                    refine s_ek_bk 1 (P := 1) (ls' := [(0, .ref 151), (1, .int 5), (2, .int b), (3, .int c)]) (st' := [.int 5]) (M' := s_M0) rfl ?_
                    refine s_ek_call (ν := s_e281.1) (P := 4) (as := [.int 5]) (r := []) (fun _ => rfl) rfl ?_
                    show s_Ek (s_rows 3 L xs) 1298 s_e281.1 0 [(0, .int 5)] [] s_M0 _
                    refine s_ek_bk 3 (P := 3) (ls' := [(0, .int 5)]) (st' := [.int 5, .int 0, .int 5]) (M' := s_M0) rfl ?_
                    refine s_ek_call (ν := s_e181.1) (P := 6) (as := [.int 5, .int 0, .int 5]) (r := []) (fun _ => rfl) rfl ?_
                    show s_Ek (s_rows 3 L xs) 1297 s_e181.1 0 [(0, .int 5), (1, .int 0), (2, .int 5)] [] s_M0 _
                    refine s_ek_bk 8 (P := 15) (ls' := [(0, .int 5), (1, .int 0), (2, .int 5)]) (st' := [.int 1]) (M' := s_M0) rfl ?_
                    refine s_ek_ret (o := some (.int 1)) (fun _ => rfl) ?_
                    show s_Ek (s_rows 3 L xs) 1298 s_e281.1 6 [(0, .int 5)] [.int 1] s_M0 _
                    refine s_ek_ret (o := some (.int 1)) (fun _ => rfl) ?_
                    show s_Ek (s_rows 3 L xs) 1299 s_e251.1 4 [(0, .ref 151), (1, .int 5), (2, .int b), (3, .int c)] [.int 1] s_M0 _
                    refine s_ek_bk 4 (P := 11) (ls' := [(0, .ref 151), (1, .int 5), (2, .int b), (3, .int c)]) (st' := [.int 99, .int 0, .int b]) (M' := s_M0) rfl ?_
                    refine s_ek_call (ν := s_e181.1) (P := 14) (as := [.int b, .int 0, .int 99]) (r := []) (fun _ => rfl) rfl ?_
                    show s_Ek (s_rows 3 L xs) 1298 s_e181.1 0 [(0, .int b), (1, .int 0), (2, .int 99)] [] s_M0 _
                    refine s_ek_bk 2 (P := 2) (ls' := [(0, .int b), (1, .int 0), (2, .int 99)]) (st' := [.int 0, .int b]) (M' := s_M0) rfl ?_
                    refine s_ek_if2 (T := 14) rfl rfl (fun h9 => ?_) (fun h9 => ?_)
                    · replace h9 : b.toInt < 0 := h9
                      omega
                    · replace h9 : ¬ (b.toInt < 0) := h9
                      replace h9 : 0 ≤ b.toInt := by omega
                      refine s_ek_bk 2 (P := 7) (ls' := [(0, .int b), (1, .int 0), (2, .int 99)]) (st' := [.int 99, .int b]) (M' := s_M0) rfl ?_
                      refine s_ek_if2 (T := 14) rfl rfl (fun h10 => ?_) (fun h10 => ?_)
                      · replace h10 : 99 < b.toInt := h10
                        omega
                      · replace h10 : ¬ (99 < b.toInt) := h10
                        replace h10 : b.toInt ≤ 99 := by omega
                        refine s_ek_bk 2 (P := 15) (ls' := [(0, .int b), (1, .int 0), (2, .int 99)]) (st' := [.int 1]) (M' := s_M0) rfl ?_
                        refine s_ek_ret (o := some (.int 1)) (fun _ => rfl) ?_
                        show s_Ek (s_rows 3 L xs) 1299 s_e251.1 14 [(0, .ref 151), (1, .int 5), (2, .int b), (3, .int c)] [.int 1] s_M0 _
                        refine s_ek_bk 4 (P := 20) (ls' := [(0, .ref 151), (1, .int 5), (2, .int b), (3, .int c)]) (st' := [.int 2, .int 0, .int c]) (M' := s_M0) rfl ?_
                        refine s_ek_call (ν := s_e181.1) (P := 23) (as := [.int c, .int 0, .int 2]) (r := []) (fun _ => rfl) rfl ?_
                        show s_Ek (s_rows 3 L xs) 1298 s_e181.1 0 [(0, .int c), (1, .int 0), (2, .int 2)] [] s_M0 _
                        refine s_ek_bk 2 (P := 2) (ls' := [(0, .int c), (1, .int 0), (2, .int 2)]) (st' := [.int 0, .int c]) (M' := s_M0) rfl ?_
                        refine s_ek_if2 (T := 14) rfl rfl (fun h11 => ?_) (fun h11 => ?_)
                        · replace h11 : c.toInt < 0 := h11
                          omega
                        · replace h11 : ¬ (c.toInt < 0) := h11
                          replace h11 : 0 ≤ c.toInt := by omega
                          refine s_ek_bk 2 (P := 7) (ls' := [(0, .int c), (1, .int 0), (2, .int 2)]) (st' := [.int 2, .int c]) (M' := s_M0) rfl ?_
                          refine s_ek_if2 (T := 14) rfl rfl (fun h12 => ?_) (fun h12 => ?_)
                          · replace h12 : 2 < c.toInt := h12
                            omega
                          · replace h12 : ¬ (2 < c.toInt) := h12
                            replace h12 : c.toInt ≤ 2 := by omega
                            refine s_ek_bk 2 (P := 15) (ls' := [(0, .int c), (1, .int 0), (2, .int 2)]) (st' := [.int 1]) (M' := s_M0) rfl ?_
                            refine s_ek_ret (o := some (.int 1)) (fun _ => rfl) ?_
                            show s_Ek (s_rows 3 L xs) 1299 s_e251.1 23 [(0, .ref 151), (1, .int 5), (2, .int b), (3, .int c)] [.int 1] s_M0 _
                            refine s_ek_bk 3 (P := 30) (ls' := [(0, .ref 151), (1, .int 5), (2, .int b), (3, .int c)]) (st' := [.int 5, .ref 151]) (M' := s_M0) rfl ?_
                            refine s_ek_call (ν := s_e236.1) (P := 33) (as := [.ref 151, .int 5]) (r := []) (fun _ => rfl) rfl ?_
                            show s_Ek (s_rows 3 L xs) 1298 s_e236.1 0 [(0, .ref 151), (1, .int 5)] [] s_M0 _
                            refine s_ek_bk 8 (P := 32) (ls' := [(0, .ref 151), (1, .int 5)]) (st' := [.int (-11)]) (M' := s_M0) rfl ?_
                            refine s_ek_ret (o := some (.int (-11))) (fun _ => rfl) ?_
                            show s_Ek (s_rows 3 L xs) 1299 s_e251.1 33 [(0, .ref 151), (1, .int 5), (2, .int b), (3, .int c)] [.int (-11)] s_M0 _
                            refine s_ek_bk 3 (P := 38) (ls' := [(0, .ref 151), (1, .int 5), (2, .int b), (3, .int c)]) (st' := [.int 5, .ref 151]) (M' := s_M0) rfl ?_
                            refine s_ek_call (ν := s_e236.1) (P := 41) (as := [.ref 151, .int 5]) (r := []) (fun _ => rfl) rfl ?_
                            show s_Ek (s_rows 3 L xs) 1298 s_e236.1 0 [(0, .ref 151), (1, .int 5)] [] s_M0 _
                            refine s_ek_bk 8 (P := 32) (ls' := [(0, .ref 151), (1, .int 5)]) (st' := [.int (-11)]) (M' := s_M0) rfl ?_
                            refine s_ek_ret (o := some (.int (-11))) (fun _ => rfl) ?_
                            show s_Ek (s_rows 3 L xs) 1299 s_e251.1 41 [(0, .ref 151), (1, .int 5), (2, .int b), (3, .int c)] [.int (-11)] s_M0 _
                            refine s_ek_ret (o := some (.int (-11))) (fun _ => rfl) ?_
                            exact rfl
