/-! the calls on fresh objects: shift -/
set_option maxHeartbeats 20000000 in
set_option maxRecDepth 100000 in
theorem s_op_shift (L : Nat) (xs : Nat → Int32) (a : Int32) (b : Int32) (c : Int32) (d : Int32) (e : Int32) : s_Ek (s_rows 3 L xs) 1299 s_e166.1 0 (lv_args 0 [.ref 0, .int a, .int b, .int c, .int d, .int e]) [] s_M0 (fun v M1 => ∃ r : Int32, v = some (.int r) ∧ s_Ek (s_rows 3 L xs) 1299 s_e287.1 0 (lv_args 0 [.ref 151, .int a, .int b, .int c, .int d, .int e]) [] M1 (fun w _ => w = some (.int r))) := by
  show s_Ek (s_rows 3 L xs) 1299 s_e166.1 0 [(0, .ref 0), (1, .int a), (2, .int b), (3, .int c), (4, .int d), (5, .int e)] [] s_M0 _
  refine s_ek_bk 1 (P := 1) (ls' := [(0, .ref 0), (1, .int a), (2, .int b), (3, .int c), (4, .int d), (5, .int e)]) (st' := [.int a]) (M' := s_M0) rfl ?_
  refine s_ek_call (ν := s_e175.1) (P := 4) (as := [.int a]) (r := []) (fun _ => rfl) rfl ?_
  show s_Ek (s_rows 3 L xs) 1298 s_e175.1 0 [(0, .int a)] [] s_M0 _
  refine s_ek_bk 1 (P := 1) (ls' := [(0, .int a)]) (st' := [.int a]) (M' := s_M0) rfl ?_
  refine s_ek_if1 (T := 14) rfl rfl (fun h1 => ?_) (fun h1 => ?_)
  · replace h1 : a.toInt < 0 := h1
    refine s_ek_bk 1 (P := 15) (ls' := [(0, .int a)]) (st' := [.int 0]) (M' := s_M0) rfl ?_
    refine s_ek_ret (o := some (.int 0)) (fun _ => rfl) ?_
    show s_Ek (s_rows 3 L xs) 1299 s_e166.1 4 [(0, .ref 0), (1, .int a), (2, .int b), (3, .int c), (4, .int d), (5, .int e)] [.int 0] s_M0 _
    refine s_ek_bk 2 (P := 15) (ls' := [(0, .ref 0), (1, .int a), (2, .int b), (3, .int c), (4, .int d), (5, .int e)]) (st' := [.int (-1)]) (M' := s_M0) rfl ?_
    refine s_ek_ret (o := some (.int (-1))) (fun _ => rfl) ?_
    refine ⟨(-1), rfl, ?_⟩
    show s_Ek (s_rows 3 L xs) 1299 s_e287.1 0 [(0, .ref 151), (1, .int a), (2, .int b), (3, .int c), (4, .int d), (5, .int e)] [] s_M0 _
    refine s_ek_bk 1 (P := 1) (ls' := [(0, .ref 151), (1, .int a), (2, .int b), (3, .int c), (4, .int d), (5, .int e)]) (st' := [.int a]) (M' := s_M0) rfl ?_
    refine s_ek_call (ν := s_e281.1) (P := 4) (as := [.int a]) (r := []) (fun _ => rfl) rfl ?_
    show s_Ek (s_rows 3 L xs) 1298 s_e281.1 0 [(0, .int a)] [] s_M0 _
    refine s_ek_bk 3 (P := 3) (ls' := [(0, .int a)]) (st' := [.int 5, .int 0, .int a]) (M' := s_M0) rfl ?_
    refine s_ek_call (ν := s_e181.1) (P := 6) (as := [.int a, .int 0, .int 5]) (r := []) (fun _ => rfl) rfl ?_
    show s_Ek (s_rows 3 L xs) 1297 s_e181.1 0 [(0, .int a), (1, .int 0), (2, .int 5)] [] s_M0 _
    refine s_ek_bk 2 (P := 2) (ls' := [(0, .int a), (1, .int 0), (2, .int 5)]) (st' := [.int 0, .int a]) (M' := s_M0) rfl ?_
    refine s_ek_if2 (T := 14) rfl rfl (fun h2 => ?_) (fun h2 => ?_)
    · replace h2 : a.toInt < 0 := h2
      refine s_ek_bk 1 (P := 15) (ls' := [(0, .int a), (1, .int 0), (2, .int 5)]) (st' := [.int 0]) (M' := s_M0) rfl ?_
      refine s_ek_ret (o := some (.int 0)) (fun _ => rfl) ?_
      show s_Ek (s_rows 3 L xs) 1298 s_e281.1 6 [(0, .int a)] [.int 0] s_M0 _
      refine s_ek_ret (o := some (.int 0)) (fun _ => rfl) ?_
      show s_Ek (s_rows 3 L xs) 1299 s_e287.1 4 [(0, .ref 151), (1, .int a), (2, .int b), (3, .int c), (4, .int d), (5, .int e)] [.int 0] s_M0 _
      refine s_ek_bk 2 (P := 15) (ls' := [(0, .ref 151), (1, .int a), (2, .int b), (3, .int c), (4, .int d), (5, .int e)]) (st' := [.int (-1)]) (M' := s_M0) rfl ?_
      refine s_ek_ret (o := some (.int (-1))) (fun _ => rfl) ?_
      exact rfl
    · replace h2 : ¬ (a.toInt < 0) := h2
      replace h2 : 0 ≤ a.toInt := by omega
      omega
  · replace h1 : ¬ (a.toInt < 0) := h1
    replace h1 : 0 ≤ a.toInt := by omega
    refine s_ek_bk 2 (P := 7) (ls' := [(0, .int a)]) (st' := [.int 6, .int a]) (M' := s_M0) rfl ?_
    refine s_ek_if2 (T := 14) rfl rfl (fun h2 => ?_) (fun h2 => ?_)
    · replace h2 : 6 ≤ a.toInt := h2
      refine s_ek_bk 1 (P := 15) (ls' := [(0, .int a)]) (st' := [.int 0]) (M' := s_M0) rfl ?_
      refine s_ek_ret (o := some (.int 0)) (fun _ => rfl) ?_
      show s_Ek (s_rows 3 L xs) 1299 s_e166.1 4 [(0, .ref 0), (1, .int a), (2, .int b), (3, .int c), (4, .int d), (5, .int e)] [.int 0] s_M0 _
      refine s_ek_bk 2 (P := 15) (ls' := [(0, .ref 0), (1, .int a), (2, .int b), (3, .int c), (4, .int d), (5, .int e)]) (st' := [.int (-1)]) (M' := s_M0) rfl ?_
      refine s_ek_ret (o := some (.int (-1))) (fun _ => rfl) ?_
      refine ⟨(-1), rfl, ?_⟩
      show s_Ek (s_rows 3 L xs) 1299 s_e287.1 0 [(0, .ref 151), (1, .int a), (2, .int b), (3, .int c), (4, .int d), (5, .int e)] [] s_M0 _
      refine s_ek_bk 1 (P := 1) (ls' := [(0, .ref 151), (1, .int a), (2, .int b), (3, .int c), (4, .int d), (5, .int e)]) (st' := [.int a]) (M' := s_M0) rfl ?_
      refine s_ek_call (ν := s_e281.1) (P := 4) (as := [.int a]) (r := []) (fun _ => rfl) rfl ?_
      show s_Ek (s_rows 3 L xs) 1298 s_e281.1 0 [(0, .int a)] [] s_M0 _
      refine s_ek_bk 3 (P := 3) (ls' := [(0, .int a)]) (st' := [.int 5, .int 0, .int a]) (M' := s_M0) rfl ?_
      refine s_ek_call (ν := s_e181.1) (P := 6) (as := [.int a, .int 0, .int 5]) (r := []) (fun _ => rfl) rfl ?_
      show s_Ek (s_rows 3 L xs) 1297 s_e181.1 0 [(0, .int a), (1, .int 0), (2, .int 5)] [] s_M0 _
      refine s_ek_bk 2 (P := 2) (ls' := [(0, .int a), (1, .int 0), (2, .int 5)]) (st' := [.int 0, .int a]) (M' := s_M0) rfl ?_
      refine s_ek_if2 (T := 14) rfl rfl (fun h3 => ?_) (fun h3 => ?_)
      · replace h3 : a.toInt < 0 := h3
        omega
      · replace h3 : ¬ (a.toInt < 0) := h3
        replace h3 : 0 ≤ a.toInt := by omega
        refine s_ek_bk 2 (P := 7) (ls' := [(0, .int a), (1, .int 0), (2, .int 5)]) (st' := [.int 5, .int a]) (M' := s_M0) rfl ?_
        refine s_ek_if2 (T := 14) rfl rfl (fun h4 => ?_) (fun h4 => ?_)
        · replace h4 : 5 < a.toInt := h4
          refine s_ek_bk 1 (P := 15) (ls' := [(0, .int a), (1, .int 0), (2, .int 5)]) (st' := [.int 0]) (M' := s_M0) rfl ?_
          refine s_ek_ret (o := some (.int 0)) (fun _ => rfl) ?_
          show s_Ek (s_rows 3 L xs) 1298 s_e281.1 6 [(0, .int a)] [.int 0] s_M0 _
          refine s_ek_ret (o := some (.int 0)) (fun _ => rfl) ?_
          show s_Ek (s_rows 3 L xs) 1299 s_e287.1 4 [(0, .ref 151), (1, .int a), (2, .int b), (3, .int c), (4, .int d), (5, .int e)] [.int 0] s_M0 _
          refine s_ek_bk 2 (P := 15) (ls' := [(0, .ref 151), (1, .int a), (2, .int b), (3, .int c), (4, .int d), (5, .int e)]) (st' := [.int (-1)]) (M' := s_M0) rfl ?_
          refine s_ek_ret (o := some (.int (-1))) (fun _ => rfl) ?_
          exact rfl
        · replace h4 : ¬ (5 < a.toInt) := h4
          replace h4 : a.toInt ≤ 5 := by omega
          omega
    · replace h2 : ¬ (6 ≤ a.toInt) := h2
      replace h2 : a.toInt < 6 := by omega
      refine s_ek_bk 2 (P := 15) (ls' := [(0, .int a)]) (st' := [.int 1]) (M' := s_M0) rfl ?_
      refine s_ek_ret (o := some (.int 1)) (fun _ => rfl) ?_
      show s_Ek (s_rows 3 L xs) 1299 s_e166.1 4 [(0, .ref 0), (1, .int a), (2, .int b), (3, .int c), (4, .int d), (5, .int e)] [.int 1] s_M0 _
      refine s_ek_bk 2 (P := 8) (ls' := [(0, .ref 0), (1, .int a), (2, .int b), (3, .int c), (4, .int d), (5, .int e)]) (st' := [.int c]) (M' := s_M0) rfl ?_
      refine s_ek_call (ν := s_e175.1) (P := 11) (as := [.int c]) (r := []) (fun _ => rfl) rfl ?_
      show s_Ek (s_rows 3 L xs) 1298 s_e175.1 0 [(0, .int c)] [] s_M0 _
      refine s_ek_bk 1 (P := 1) (ls' := [(0, .int c)]) (st' := [.int c]) (M' := s_M0) rfl ?_
      refine s_ek_if1 (T := 14) rfl rfl (fun h3 => ?_) (fun h3 => ?_)
      · replace h3 : c.toInt < 0 := h3
        refine s_ek_bk 1 (P := 15) (ls' := [(0, .int c)]) (st' := [.int 0]) (M' := s_M0) rfl ?_
        refine s_ek_ret (o := some (.int 0)) (fun _ => rfl) ?_
        show s_Ek (s_rows 3 L xs) 1299 s_e166.1 11 [(0, .ref 0), (1, .int a), (2, .int b), (3, .int c), (4, .int d), (5, .int e)] [.int 0] s_M0 _
        refine s_ek_bk 2 (P := 15) (ls' := [(0, .ref 0), (1, .int a), (2, .int b), (3, .int c), (4, .int d), (5, .int e)]) (st' := [.int (-1)]) (M' := s_M0) rfl ?_
        refine s_ek_ret (o := some (.int (-1))) (fun _ => rfl) ?_
        refine ⟨(-1), rfl, ?_⟩
        show s_Ek (s_rows 3 L xs) 1299 s_e287.1 0 [(0, .ref 151), (1, .int a), (2, .int b), (3, .int c), (4, .int d), (5, .int e)] [] s_M0 _
        refine s_ek_bk 1 (P := 1) (ls' := [(0, .ref 151), (1, .int a), (2, .int b), (3, .int c), (4, .int d), (5, .int e)]) (st' := [.int a]) (M' := s_M0) rfl ?_
        refine s_ek_call (ν := s_e281.1) (P := 4) (as := [.int a]) (r := []) (fun _ => rfl) rfl ?_
        show s_Ek (s_rows 3 L xs) 1298 s_e281.1 0 [(0, .int a)] [] s_M0 _
        refine s_ek_bk 3 (P := 3) (ls' := [(0, .int a)]) (st' := [.int 5, .int 0, .int a]) (M' := s_M0) rfl ?_
        refine s_ek_call (ν := s_e181.1) (P := 6) (as := [.int a, .int 0, .int 5]) (r := []) (fun _ => rfl) rfl ?_
        show s_Ek (s_rows 3 L xs) 1297 s_e181.1 0 [(0, .int a), (1, .int 0), (2, .int 5)] [] s_M0 _
        refine s_ek_bk 2 (P := 2) (ls' := [(0, .int a), (1, .int 0), (2, .int 5)]) (st' := [.int 0, .int a]) (M' := s_M0) rfl ?_
        refine s_ek_if2 (T := 14) rfl rfl (fun h4 => ?_) (fun h4 => ?_)
        · replace h4 : a.toInt < 0 := h4
          omega
        · replace h4 : ¬ (a.toInt < 0) := h4
          replace h4 : 0 ≤ a.toInt := by omega
          refine s_ek_bk 2 (P := 7) (ls' := [(0, .int a), (1, .int 0), (2, .int 5)]) (st' := [.int 5, .int a]) (M' := s_M0) rfl ?_
          refine s_ek_if2 (T := 14) rfl rfl (fun h5 => ?_) (fun h5 => ?_)
          · replace h5 : 5 < a.toInt := h5
            omega
          · replace h5 : ¬ (5 < a.toInt) := h5
            replace h5 : a.toInt ≤ 5 := by omega
            refine s_ek_bk 2 (P := 15) (ls' := [(0, .int a), (1, .int 0), (2, .int 5)]) (st' := [.int 1]) (M' := s_M0) rfl ?_
            refine s_ek_ret (o := some (.int 1)) (fun _ => rfl) ?_
            show s_Ek (s_rows 3 L xs) 1298 s_e281.1 6 [(0, .int a)] [.int 1] s_M0 _
            refine s_ek_ret (o := some (.int 1)) (fun _ => rfl) ?_
            show s_Ek (s_rows 3 L xs) 1299 s_e287.1 4 [(0, .ref 151), (1, .int a), (2, .int b), (3, .int c), (4, .int d), (5, .int e)] [.int 1] s_M0 _
            refine s_ek_bk 2 (P := 8) (ls' := [(0, .ref 151), (1, .int a), (2, .int b), (3, .int c), (4, .int d), (5, .int e)]) (st' := [.int c]) (M' := s_M0) rfl ?_
            refine s_ek_call (ν := s_e281.1) (P := 11) (as := [.int c]) (r := []) (fun _ => rfl) rfl ?_
            show s_Ek (s_rows 3 L xs) 1298 s_e281.1 0 [(0, .int c)] [] s_M0 _
            refine s_ek_bk 3 (P := 3) (ls' := [(0, .int c)]) (st' := [.int 5, .int 0, .int c]) (M' := s_M0) rfl ?_
            refine s_ek_call (ν := s_e181.1) (P := 6) (as := [.int c, .int 0, .int 5]) (r := []) (fun _ => rfl) rfl ?_
            show s_Ek (s_rows 3 L xs) 1297 s_e181.1 0 [(0, .int c), (1, .int 0), (2, .int 5)] [] s_M0 _
            refine s_ek_bk 2 (P := 2) (ls' := [(0, .int c), (1, .int 0), (2, .int 5)]) (st' := [.int 0, .int c]) (M' := s_M0) rfl ?_
            refine s_ek_if2 (T := 14) rfl rfl (fun h6 => ?_) (fun h6 => ?_)
            · replace h6 : c.toInt < 0 := h6
              refine s_ek_bk 1 (P := 15) (ls' := [(0, .int c), (1, .int 0), (2, .int 5)]) (st' := [.int 0]) (M' := s_M0) rfl ?_
              refine s_ek_ret (o := some (.int 0)) (fun _ => rfl) ?_
              show s_Ek (s_rows 3 L xs) 1298 s_e281.1 6 [(0, .int c)] [.int 0] s_M0 _
              refine s_ek_ret (o := some (.int 0)) (fun _ => rfl) ?_
              show s_Ek (s_rows 3 L xs) 1299 s_e287.1 11 [(0, .ref 151), (1, .int a), (2, .int b), (3, .int c), (4, .int d), (5, .int e)] [.int 0] s_M0 _
              refine s_ek_bk 2 (P := 15) (ls' := [(0, .ref 151), (1, .int a), (2, .int b), (3, .int c), (4, .int d), (5, .int e)]) (st' := [.int (-1)]) (M' := s_M0) rfl ?_
              refine s_ek_ret (o := some (.int (-1))) (fun _ => rfl) ?_
              exact rfl
            · replace h6 : ¬ (c.toInt < 0) := h6
              replace h6 : 0 ≤ c.toInt := by omega
              omega
      · replace h3 : ¬ (c.toInt < 0) := h3
        replace h3 : 0 ≤ c.toInt := by omega
        refine s_ek_bk 2 (P := 7) (ls' := [(0, .int c)]) (st' := [.int 6, .int c]) (M' := s_M0) rfl ?_
        refine s_ek_if2 (T := 14) rfl rfl (fun h4 => ?_) (fun h4 => ?_)
        · replace h4 : 6 ≤ c.toInt := h4
          refine s_ek_bk 1 (P := 15) (ls' := [(0, .int c)]) (st' := [.int 0]) (M' := s_M0) rfl ?_
          refine s_ek_ret (o := some (.int 0)) (fun _ => rfl) ?_
          show s_Ek (s_rows 3 L xs) 1299 s_e166.1 11 [(0, .ref 0), (1, .int a), (2, .int b), (3, .int c), (4, .int d), (5, .int e)] [.int 0] s_M0 _
          refine s_ek_bk 2 (P := 15) (ls' := [(0, .ref 0), (1, .int a), (2, .int b), (3, .int c), (4, .int d), (5, .int e)]) (st' := [.int (-1)]) (M' := s_M0) rfl ?_
          refine s_ek_ret (o := some (.int (-1))) (fun _ => rfl) ?_
          refine ⟨(-1), rfl, ?_⟩
          show s_Ek (s_rows 3 L xs) 1299 s_e287.1 0 [(0, .ref 151), (1, .int a), (2, .int b), (3, .int c), (4, .int d), (5, .int e)] [] s_M0 _
          refine s_ek_bk 1 (P := 1) (ls' := [(0, .ref 151), (1, .int a), (2, .int b), (3, .int c), (4, .int d), (5, .int e)]) (st' := [.int a]) (M' := s_M0) rfl ?_
          refine s_ek_call (ν := s_e281.1) (P := 4) (as := [.int a]) (r := []) (fun _ => rfl) rfl ?_
          show s_Ek (s_rows 3 L xs) 1298 s_e281.1 0 [(0, .int a)] [] s_M0 _
          refine s_ek_bk 3 (P := 3) (ls' := [(0, .int a)]) (st' := [.int 5, .int 0, .int a]) (M' := s_M0) rfl ?_
          refine s_ek_call (ν := s_e181.1) (P := 6) (as := [.int a, .int 0, .int 5]) (r := []) (fun _ => rfl) rfl ?_
          show s_Ek (s_rows 3 L xs) 1297 s_e181.1 0 [(0, .int a), (1, .int 0), (2, .int 5)] [] s_M0 _
          refine s_ek_bk 2 (P := 2) (ls' := [(0, .int a), (1, .int 0), (2, .int 5)]) (st' := [.int 0, .int a]) (M' := s_M0) rfl ?_
          refine s_ek_if2 (T := 14) rfl rfl (fun h5 => ?_) (fun h5 => ?_)
          · replace h5 : a.toInt < 0 := h5
            omega
          · replace h5 : ¬ (a.toInt < 0) := h5
            replace h5 : 0 ≤ a.toInt := by omega
            refine s_ek_bk 2 (P := 7) (ls' := [(0, .int a), (1, .int 0), (2, .int 5)]) (st' := [.int 5, .int a]) (M' := s_M0) rfl ?_
            refine s_ek_if2 (T := 14) rfl rfl (fun h6 => ?_) (fun h6 => ?_)
            · replace h6 : 5 < a.toInt := h6
              omega
            · replace h6 : ¬ (5 < a.toInt) := h6
              replace h6 : a.toInt ≤ 5 := by omega
              refine s_ek_bk 2 (P := 15) (ls' := [(0, .int a), (1, .int 0), (2, .int 5)]) (st' := [.int 1]) (M' := s_M0) rfl ?_
              refine s_ek_ret (o := some (.int 1)) (fun _ => rfl) ?_
              show s_Ek (s_rows 3 L xs) 1298 s_e281.1 6 [(0, .int a)] [.int 1] s_M0 _
              refine s_ek_ret (o := some (.int 1)) (fun _ => rfl) ?_
              show s_Ek (s_rows 3 L xs) 1299 s_e287.1 4 [(0, .ref 151), (1, .int a), (2, .int b), (3, .int c), (4, .int d), (5, .int e)] [.int 1] s_M0 _
              refine s_ek_bk 2 (P := 8) (ls' := [(0, .ref 151), (1, .int a), (2, .int b), (3, .int c), (4, .int d), (5, .int e)]) (st' := [.int c]) (M' := s_M0) rfl ?_
              refine s_ek_call (ν := s_e281.1) (P := 11) (as := [.int c]) (r := []) (fun _ => rfl) rfl ?_
              show s_Ek (s_rows 3 L xs) 1298 s_e281.1 0 [(0, .int c)] [] s_M0 _
              refine s_ek_bk 3 (P := 3) (ls' := [(0, .int c)]) (st' := [.int 5, .int 0, .int c]) (M' := s_M0) rfl ?_
              refine s_ek_call (ν := s_e181.1) (P := 6) (as := [.int c, .int 0, .int 5]) (r := []) (fun _ => rfl) rfl ?_
              show s_Ek (s_rows 3 L xs) 1297 s_e181.1 0 [(0, .int c), (1, .int 0), (2, .int 5)] [] s_M0 _
              refine s_ek_bk 2 (P := 2) (ls' := [(0, .int c), (1, .int 0), (2, .int 5)]) (st' := [.int 0, .int c]) (M' := s_M0) rfl ?_
              refine s_ek_if2 (T := 14) rfl rfl (fun h7 => ?_) (fun h7 => ?_)
              · replace h7 : c.toInt < 0 := h7
                omega
              · replace h7 : ¬ (c.toInt < 0) := h7
                replace h7 : 0 ≤ c.toInt := by omega
                refine s_ek_bk 2 (P := 7) (ls' := [(0, .int c), (1, .int 0), (2, .int 5)]) (st' := [.int 5, .int c]) (M' := s_M0) rfl ?_
                refine s_ek_if2 (T := 14) rfl rfl (fun h8 => ?_) (fun h8 => ?_)
                · replace h8 : 5 < c.toInt := h8
                  refine s_ek_bk 1 (P := 15) (ls' := [(0, .int c), (1, .int 0), (2, .int 5)]) (st' := [.int 0]) (M' := s_M0) rfl ?_
                  refine s_ek_ret (o := some (.int 0)) (fun _ => rfl) ?_
                  show s_Ek (s_rows 3 L xs) 1298 s_e281.1 6 [(0, .int c)] [.int 0] s_M0 _
                  refine s_ek_ret (o := some (.int 0)) (fun _ => rfl) ?_
                  show s_Ek (s_rows 3 L xs) 1299 s_e287.1 11 [(0, .ref 151), (1, .int a), (2, .int b), (3, .int c), (4, .int d), (5, .int e)] [.int 0] s_M0 _
                  refine s_ek_bk 2 (P := 15) (ls' := [(0, .ref 151), (1, .int a), (2, .int b), (3, .int c), (4, .int d), (5, .int e)]) (st' := [.int (-1)]) (M' := s_M0) rfl ?_
                  refine s_ek_ret (o := some (.int (-1))) (fun _ => rfl) ?_
                  exact rfl
                · replace h8 : ¬ (5 < c.toInt) := h8
                  replace h8 : c.toInt ≤ 5 := by omega
                  omega
        · replace h4 : ¬ (6 ≤ c.toInt) := h4
          replace h4 : c.toInt < 6 := by omega
          refine s_ek_bk 2 (P := 15) (ls' := [(0, .int c)]) (st' := [.int 1]) (M' := s_M0) rfl ?_
          refine s_ek_ret (o := some (.int 1)) (fun _ => rfl) ?_
          show s_Ek (s_rows 3 L xs) 1299 s_e166.1 11 [(0, .ref 0), (1, .int a), (2, .int b), (3, .int c), (4, .int d), (5, .int e)] [.int 1] s_M0 _
          refine s_ek_bk 3 (P := 18) (ls' := [(0, .ref 0), (1, .int a), (2, .int b), (3, .int c), (4, .int d), (5, .int e)]) (st' := [.int a, .ref 0]) (M' := s_M0) rfl ?_
          refine s_ek_call (ν := s_e176.1) (P := 21) (as := [.ref 0, .int a]) (r := []) (fun _ => rfl) rfl ?_
          show s_Ek (s_rows 3 L xs) 1298 s_e176.1 0 [(0, .ref 0), (1, .int a)] [] s_M0 _
          refine s_ek_bk 1 (P := 1) (ls' := [(0, .ref 0), (1, .int a)]) (st' := [.int a]) (M' := s_M0) rfl ?_
          refine s_ek_if1 (T := 22) rfl rfl (fun h5 => ?_) (fun h5 => ?_)
          · replace h5 : a.toInt < 0 := h5
            omega
          · replace h5 : ¬ (a.toInt < 0) := h5
            replace h5 : 0 ≤ a.toInt := by omega
            refine s_ek_bk 4 (P := 10) (ls' := [(0, .ref 0), (1, .int a)]) (st' := [.int 6, .int a]) (M' := s_M0) rfl ?_
            refine s_ek_if2 (T := 22) rfl rfl (fun h6 => ?_) (fun h6 => ?_)
            · replace h6 : 6 ≤ a.toInt := h6
              omega
            · replace h6 : ¬ (6 ≤ a.toInt) := h6
              replace h6 : a.toInt < 6 := by omega
              refine s_ek_bk 3 (P := 18) (ls' := [(0, .ref 0), (1, .int a)]) (st' := [.int a, .ref 135]) (M' := s_M0) rfl ?_
              rcases s_rg_0_5 (a := a) (by omega) (by omega) with rfl | rfl | rfl | rfl | rfl | rfl
              · refine s_ek_bk 6 (P := 33) (ls' := [(0, .ref 0), (1, .int 0)]) (st' := [.ref 139]) (M' := s_M0) rfl ?_
                refine s_ek_ret (o := some (.ref 139)) (fun _ => rfl) ?_
                show s_Ek (s_rows 3 L xs) 1299 s_e166.1 21 [(0, .ref 0), (1, .int 0), (2, .int b), (3, .int c), (4, .int d), (5, .int e)] [.ref 139] s_M0 _
                refine s_ek_bk 3 (P := 25) (ls' := [(6, .ref 139), (0, .ref 0), (1, .int 0), (2, .int b), (3, .int c), (4, .int d), (5, .int e)]) (st' := [.int c, .ref 0]) (M' := s_M0) rfl ?_
                refine s_ek_call (ν := s_e176.1) (P := 28) (as := [.ref 0, .int c]) (r := []) (fun _ => rfl) rfl ?_
                show s_Ek (s_rows 3 L xs) 1298 s_e176.1 0 [(0, .ref 0), (1, .int c)] [] s_M0 _
                refine s_ek_bk 1 (P := 1) (ls' := [(0, .ref 0), (1, .int c)]) (st' := [.int c]) (M' := s_M0) rfl ?_
                refine s_ek_if1 (T := 22) rfl rfl (fun h7 => ?_) (fun h7 => ?_)
                · replace h7 : c.toInt < 0 := h7
                  omega
                · replace h7 : ¬ (c.toInt < 0) := h7
                  replace h7 : 0 ≤ c.toInt := by omega
                  refine s_ek_bk 4 (P := 10) (ls' := [(0, .ref 0), (1, .int c)]) (st' := [.int 6, .int c]) (M' := s_M0) rfl ?_
                  refine s_ek_if2 (T := 22) rfl rfl (fun h8 => ?_) (fun h8 => ?_)
                  · replace h8 : 6 ≤ c.toInt := h8
                    omega
                  · replace h8 : ¬ (6 ≤ c.toInt) := h8
                    replace h8 : c.toInt < 6 := by omega
                    refine s_ek_bk 3 (P := 18) (ls' := [(0, .ref 0), (1, .int c)]) (st' := [.int c, .ref 135]) (M' := s_M0) rfl ?_
                    rcases s_rg_0_5 (a := c) (by omega) (by omega) with rfl | rfl | rfl | rfl | rfl | rfl
                    · refine s_ek_bk 6 (P := 33) (ls' := [(0, .ref 0), (1, .int 0)]) (st' := [.ref 139]) (M' := s_M0) rfl ?_
                      refine s_ek_ret (o := some (.ref 139)) (fun _ => rfl) ?_
                      show s_Ek (s_rows 3 L xs) 1299 s_e166.1 28 [(6, .ref 139), (0, .ref 0), (1, .int 0), (2, .int b), (3, .int 0), (4, .int d), (5, .int e)] [.ref 139] s_M0 _
                      refine s_ek_bk 2 (P := 32) (ls' := [(7, .ref 139), (6, .ref 139), (0, .ref 0), (1, .int 0), (2, .int b), (3, .int 0), (4, .int d), (5, .int e)]) (st' := [.ref 139]) (M' := s_M0) rfl ?_
                      refine s_ek_call (ν := s_e84.1) (P := 35) (as := [.ref 139]) (r := []) (fun _ => rfl) rfl ?_
                      show s_Ek (s_rows 3 L xs) 1298 s_e84.1 0 [(0, .ref 139)] [] s_M0 _
                      refine s_ek_bk 6 (P := 13) (ls' := [(0, .ref 139)]) (st' := [.int 1]) (M' := s_M0) rfl ?_
                      refine s_ek_ret (o := some (.int 1)) (fun _ => rfl) ?_
                      show s_Ek (s_rows 3 L xs) 1299 s_e166.1 35 [(7, .ref 139), (6, .ref 139), (0, .ref 0), (1, .int 0), (2, .int b), (3, .int 0), (4, .int d), (5, .int e)] [.int 1] s_M0 _
                      refine s_ek_bk 2 (P := 48) (ls' := [(7, .ref 139), (6, .ref 139), (0, .ref 0), (1, .int 0), (2, .int b), (3, .int 0), (4, .int d), (5, .int e)]) (st' := [.int (-11)]) (M' := s_M0) rfl ?_
                      refine s_ek_ret (o := some (.int (-11))) (fun _ => rfl) ?_
                      refine ⟨(-11), rfl, ?_⟩
                      show s_Ek (s_rows 3 L xs) 1299 s_e287.1 0 [(0, .ref 151), (1, .int 0), (2, .int b), (3, .int 0), (4, .int d), (5, .int e)] [] s_M0 _
                      refine s_ek_bk 1 (P := 1) (ls' := [(0, .ref 151), (1, .int 0), (2, .int b), (3, .int 0), (4, .int d), (5, .int e)]) (st' := [.int 0]) (M' := s_M0) rfl ?_
                      refine s_ek_call (ν := s_e281.1) (P := 4) (as := [.int 0]) (r := []) (fun _ => rfl) rfl ?_
                      show s_Ek (s_rows 3 L xs) 1298 s_e281.1 0 [(0, .int 0)] [] s_M0 _
                      refine s_ek_bk 3 (P := 3) (ls' := [(0, .int 0)]) (st' := [.int 5, .int 0, .int 0]) (M' := s_M0) rfl ?_
                      refine s_ek_call (ν := s_e181.1) (P := 6) (as := [.int 0, .int 0, .int 5]) (r := []) (fun _ => rfl) rfl ?_
                      show s_Ek (s_rows 3 L xs) 1297 s_e181.1 0 [(0, .int 0), (1, .int 0), (2, .int 5)] [] s_M0 _
                      refine s_ek_bk 8 (P := 15) (ls' := [(0, .int 0), (1, .int 0), (2, .int 5)]) (st' := [.int 1]) (M' := s_M0) rfl ?_
                      refine s_ek_ret (o := some (.int 1)) (fun _ => rfl) ?_
                      show s_Ek (s_rows 3 L xs) 1298 s_e281.1 6 [(0, .int 0)] [.int 1] s_M0 _
                      refine s_ek_ret (o := some (.int 1)) (fun _ => rfl) ?_
                      show s_Ek (s_rows 3 L xs) 1299 s_e287.1 4 [(0, .ref 151), (1, .int 0), (2, .int b), (3, .int 0), (4, .int d), (5, .int e)] [.int 1] s_M0 _
                      refine s_ek_bk 2 (P := 8) (ls' := [(0, .ref 151), (1, .int 0), (2, .int b), (3, .int 0), (4, .int d), (5, .int e)]) (st' := [.int 0]) (M' := s_M0) rfl ?_
                      refine s_ek_call (ν := s_e281.1) (P := 11) (as := [.int 0]) (r := []) (fun _ => rfl) rfl ?_
                      show s_Ek (s_rows 3 L xs) 1298 s_e281.1 0 [(0, .int 0)] [] s_M0 _
                      refine s_ek_bk 3 (P := 3) (ls' := [(0, .int 0)]) (st' := [.int 5, .int 0, .int 0]) (M' := s_M0) rfl ?_
                      refine s_ek_call (ν := s_e181.1) (P := 6) (as := [.int 0, .int 0, .int 5]) (r := []) (fun _ => rfl) rfl ?_
                      show s_Ek (s_rows 3 L xs) 1297 s_e181.1 0 [(0, .int 0), (1, .int 0), (2, .int 5)] [] s_M0 _
                      refine s_ek_bk 8 (P := 15) (ls' := [(0, .int 0), (1, .int 0), (2, .int 5)]) (st' := [.int 1]) (M' := s_M0) rfl ?_
                      refine s_ek_ret (o := some (.int 1)) (fun _ => rfl) ?_
                      show s_Ek (s_rows 3 L xs) 1298 s_e281.1 6 [(0, .int 0)] [.int 1] s_M0 _
                      refine s_ek_ret (o := some (.int 1)) (fun _ => rfl) ?_
                      show s_Ek (s_rows 3 L xs) 1299 s_e287.1 11 [(0, .ref 151), (1, .int 0), (2, .int b), (3, .int 0), (4, .int d), (5, .int e)] [.int 1] s_M0 _
                      refine s_ek_bk 8 (P := 38) (ls' := [(0, .ref 151), (1, .int 0), (2, .int b), (3, .int 0), (4, .int d), (5, .int e)]) (st' := [.int (-11)]) (M' := s_M0) rfl ?_
                      refine s_ek_ret (o := some (.int (-11))) (fun _ => rfl) ?_
                      exact rfl
                    · refine s_ek_bk 6 (P := 33) (ls' := [(0, .ref 0), (1, .int 1)]) (st' := [.ref 141]) (M' := s_M0) rfl ?_
                      refine s_ek_ret (o := some (.ref 141)) (fun _ => rfl) ?_
                      show s_Ek (s_rows 3 L xs) 1299 s_e166.1 28 [(6, .ref 139), (0, .ref 0), (1, .int 0), (2, .int b), (3, .int 1), (4, .int d), (5, .int e)] [.ref 141] s_M0 _
                      refine s_ek_bk 2 (P := 32) (ls' := [(7, .ref 141), (6, .ref 139), (0, .ref 0), (1, .int 0), (2, .int b), (3, .int 1), (4, .int d), (5, .int e)]) (st' := [.ref 139]) (M' := s_M0) rfl ?_
                      refine s_ek_call (ν := s_e84.1) (P := 35) (as := [.ref 139]) (r := []) (fun _ => rfl) rfl ?_
                      show s_Ek (s_rows 3 L xs) 1298 s_e84.1 0 [(0, .ref 139)] [] s_M0 _
                      refine s_ek_bk 6 (P := 13) (ls' := [(0, .ref 139)]) (st' := [.int 1]) (M' := s_M0) rfl ?_
                      refine s_ek_ret (o := some (.int 1)) (fun _ => rfl) ?_
                      show s_Ek (s_rows 3 L xs) 1299 s_e166.1 35 [(7, .ref 141), (6, .ref 139), (0, .ref 0), (1, .int 0), (2, .int b), (3, .int 1), (4, .int d), (5, .int e)] [.int 1] s_M0 _
                      refine s_ek_bk 2 (P := 48) (ls' := [(7, .ref 141), (6, .ref 139), (0, .ref 0), (1, .int 0), (2, .int b), (3, .int 1), (4, .int d), (5, .int e)]) (st' := [.int (-11)]) (M' := s_M0) rfl ?_
                      refine s_ek_ret (o := some (.int (-11))) (fun _ => rfl) ?_
                      refine ⟨(-11), rfl, ?_⟩
                      show s_Ek (s_rows 3 L xs) 1299 s_e287.1 0 [(0, .ref 151), (1, .int 0), (2, .int b), (3, .int 1), (4, .int d), (5, .int e)] [] s_M0 _
                      refine s_ek_bk 1 (P := 1) (ls' := [(0, .ref 151), (1, .int 0), (2, .int b), (3, .int 1), (4, .int d), (5, .int e)]) (st' := [.int 0]) (M' := s_M0) rfl ?_
                      refine s_ek_call (ν := s_e281.1) (P := 4) (as := [.int 0]) (r := []) (fun _ => rfl) rfl ?_
                      show s_Ek (s_rows 3 L xs) 1298 s_e281.1 0 [(0, .int 0)] [] s_M0 _
                      refine s_ek_bk 3 (P := 3) (ls' := [(0, .int 0)]) (st' := [.int 5, .int 0, .int 0]) (M' := s_M0) rfl ?_
                      refine s_ek_call (ν := s_e181.1) (P := 6) (as := [.int 0, .int 0, .int 5]) (r := []) (fun _ => rfl) rfl ?_
                      show s_Ek (s_rows 3 L xs) 1297 s_e181.1 0 [(0, .int 0), (1, .int 0), (2, .int 5)] [] s_M0 _
                      refine s_ek_bk 8 (P := 15) (ls' := [(0, .int 0), (1, .int 0), (2, .int 5)]) (st' := [.int 1]) (M' := s_M0) rfl ?_
                      refine s_ek_ret (o := some (.int 1)) (fun _ => rfl) ?_
                      show s_Ek (s_rows 3 L xs) 1298 s_e281.1 6 [(0, .int 0)] [.int 1] s_M0 _
                      refine s_ek_ret (o := some (.int 1)) (fun _ => rfl) ?_
                      show s_Ek (s_rows 3 L xs) 1299 s_e287.1 4 [(0, .ref 151), (1, .int 0), (2, .int b), (3, .int 1), (4, .int d), (5, .int e)] [.int 1] s_M0 _
                      refine s_ek_bk 2 (P := 8) (ls' := [(0, .ref 151), (1, .int 0), (2, .int b), (3, .int 1), (4, .int d), (5, .int e)]) (st' := [.int 1]) (M' := s_M0) rfl ?_
                      refine s_ek_call (ν := s_e281.1) (P := 11) (as := [.int 1]) (r := []) (fun _ => rfl) rfl ?_
                      show s_Ek (s_rows 3 L xs) 1298 s_e281.1 0 [(0, .int 1)] [] s_M0 _
                      refine s_ek_bk 3 (P := 3) (ls' := [(0, .int 1)]) (st' := [.int 5, .int 0, .int 1]) (M' := s_M0) rfl ?_
                      refine s_ek_call (ν := s_e181.1) (P := 6) (as := [.int 1, .int 0, .int 5]) (r := []) (fun _ => rfl) rfl ?_
                      show s_Ek (s_rows 3 L xs) 1297 s_e181.1 0 [(0, .int 1), (1, .int 0), (2, .int 5)] [] s_M0 _
                      refine s_ek_bk 8 (P := 15) (ls' := [(0, .int 1), (1, .int 0), (2, .int 5)]) (st' := [.int 1]) (M' := s_M0) rfl ?_
                      refine s_ek_ret (o := some (.int 1)) (fun _ => rfl) ?_
                      show s_Ek (s_rows 3 L xs) 1298 s_e281.1 6 [(0, .int 1)] [.int 1] s_M0 _
                      refine s_ek_ret (o := some (.int 1)) (fun _ => rfl) ?_
                      show s_Ek (s_rows 3 L xs) 1299 s_e287.1 11 [(0, .ref 151), (1, .int 0), (2, .int b), (3, .int 1), (4, .int d), (5, .int e)] [.int 1] s_M0 _
                      refine s_ek_bk 8 (P := 38) (ls' := [(0, .ref 151), (1, .int 0), (2, .int b), (3, .int 1), (4, .int d), (5, .int e)]) (st' := [.int (-11)]) (M' := s_M0) rfl ?_
                      refine s_ek_ret (o := some (.int (-11))) (fun _ => rfl) ?_
                      exact rfl
                    · refine s_ek_bk 6 (P := 33) (ls' := [(0, .ref 0), (1, .int 2)]) (st' := [.ref 143]) (M' := s_M0) rfl ?_
                      refine s_ek_ret (o := some (.ref 143)) (fun _ => rfl) ?_
                      show s_Ek (s_rows 3 L xs) 1299 s_e166.1 28 [(6, .ref 139), (0, .ref 0), (1, .int 0), (2, .int b), (3, .int 2), (4, .int d), (5, .int e)] [.ref 143] s_M0 _
                      refine s_ek_bk 2 (P := 32) (ls' := [(7, .ref 143), (6, .ref 139), (0, .ref 0), (1, .int 0), (2, .int b), (3, .int 2), (4, .int d), (5, .int e)]) (st' := [.ref 139]) (M' := s_M0) rfl ?_
                      refine s_ek_call (ν := s_e84.1) (P := 35) (as := [.ref 139]) (r := []) (fun _ => rfl) rfl ?_
                      show s_Ek (s_rows 3 L xs) 1298 s_e84.1 0 [(0, .ref 139)] [] s_M0 _
                      refine s_ek_bk 6 (P := 13) (ls' := [(0, .ref 139)]) (st' := [.int 1]) (M' := s_M0) rfl ?_
                      refine s_ek_ret (o := some (.int 1)) (fun _ => rfl) ?_
                      show s_Ek (s_rows 3 L xs) 1299 s_e166.1 35 [(7, .ref 143), (6, .ref 139), (0, .ref 0), (1, .int 0), (2, .int b), (3, .int 2), (4, .int d), (5, .int e)] [.int 1] s_M0 _
                      refine s_ek_bk 2 (P := 48) (ls' := [(7, .ref 143), (6, .ref 139), (0, .ref 0), (1, .int 0), (2, .int b), (3, .int 2), (4, .int d), (5, .int e)]) (st' := [.int (-11)]) (M' := s_M0) rfl ?_
                      refine s_ek_ret (o := some (.int (-11))) (fun _ => rfl) ?_
                      refine ⟨(-11), rfl, ?_⟩
                      show s_Ek (s_rows 3 L xs) 1299 s_e287.1 0 [(0, .ref 151), (1, .int 0), (2, .int b), (3, .int 2), (4, .int d), (5, .int e)] [] s_M0 _
                      refine s_ek_bk 1 (P := 1) (ls' := [(0, .ref 151), (1, .int 0), (2, .int b), (3, .int 2), (4, .int d), (5, .int e)]) (st' := [.int 0]) (M' := s_M0) rfl ?_
                      refine s_ek_call (ν := s_e281.1) (P := 4) (as := [.int 0]) (r := []) (fun _ => rfl) rfl ?_
                      show s_Ek (s_rows 3 L xs) 1298 s_e281.1 0 [(0, .int 0)] [] s_M0 _
                      refine s_ek_bk 3 (P := 3) (ls' := [(0, .int 0)]) (st' := [.int 5, .int 0, .int 0]) (M' := s_M0) rfl ?_
                      refine s_ek_call (ν := s_e181.1) (P := 6) (as := [.int 0, .int 0, .int 5]) (r := []) (fun _ => rfl) rfl ?_
                      show s_Ek (s_rows 3 L xs) 1297 s_e181.1 0 [(0, .int 0), (1, .int 0), (2, .int 5)] [] s_M0 _
                      refine s_ek_bk 8 (P := 15) (ls' := [(0, .int 0), (1, .int 0), (2, .int 5)]) (st' := [.int 1]) (M' := s_M0) rfl ?_
                      refine s_ek_ret (o := some (.int 1)) (fun _ => rfl) ?_
                      show s_Ek (s_rows 3 L xs) 1298 s_e281.1 6 [(0, .int 0)] [.int 1] s_M0 _
                      refine s_ek_ret (o := some (.int 1)) (fun _ => rfl) ?_
                      show s_Ek (s_rows 3 L xs) 1299 s_e287.1 4 [(0, .ref 151), (1, .int 0), (2, .int b), (3, .int 2), (4, .int d), (5, .int e)] [.int 1] s_M0 _
                      refine s_ek_bk 2 (P := 8) (ls' := [(0, .ref 151), (1, .int 0), (2, .int b), (3, .int 2), (4, .int d), (5, .int e)]) (st' := [.int 2]) (M' := s_M0) rfl ?_
                      refine s_ek_call (ν := s_e281.1) (P := 11) (as := [.int 2]) (r := []) (fun _ => rfl) rfl ?_
                      show s_Ek (s_rows 3 L xs) 1298 s_e281.1 0 [(0, .int 2)] [] s_M0 _
                      refine s_ek_bk 3 (P := 3) (ls' := [(0, .int 2)]) (st' := [.int 5, .int 0, .int 2]) (M' := s_M0) rfl ?_
                      refine s_ek_call (ν := s_e181.1) (P := 6) (as := [.int 2, .int 0, .int 5]) (r := []) (fun _ => rfl) rfl ?_
                      show s_Ek (s_rows 3 L xs) 1297 s_e181.1 0 [(0, .int 2), (1, .int 0), (2, .int 5)] [] s_M0 _
                      refine s_ek_bk 8 (P := 15) (ls' := [(0, .int 2), (1, .int 0), (2, .int 5)]) (st' := [.int 1]) (M' := s_M0) rfl ?_
                      refine s_ek_ret (o := some (.int 1)) (fun _ => rfl) ?_
                      show s_Ek (s_rows 3 L xs) 1298 s_e281.1 6 [(0, .int 2)] [.int 1] s_M0 _
                      refine s_ek_ret (o := some (.int 1)) (fun _ => rfl) ?_
                      show s_Ek (s_rows 3 L xs) 1299 s_e287.1 11 [(0, .ref 151), (1, .int 0), (2, .int b), (3, .int 2), (4, .int d), (5, .int e)] [.int 1] s_M0 _
                      refine s_ek_bk 8 (P := 38) (ls' := [(0, .ref 151), (1, .int 0), (2, .int b), (3, .int 2), (4, .int d), (5, .int e)]) (st' := [.int (-11)]) (M' := s_M0) rfl ?_
                      refine s_ek_ret (o := some (.int (-11))) (fun _ => rfl) ?_
                      exact rfl
                    · refine s_ek_bk 6 (P := 33) (ls' := [(0, .ref 0), (1, .int 3)]) (st' := [.ref 145]) (M' := s_M0) rfl ?_
                      refine s_ek_ret (o := some (.ref 145)) (fun _ => rfl) ?_
                      show s_Ek (s_rows 3 L xs) 1299 s_e166.1 28 [(6, .ref 139), (0, .ref 0), (1, .int 0), (2, .int b), (3, .int 3), (4, .int d), (5, .int e)] [.ref 145] s_M0 _
                      refine s_ek_bk 2 (P := 32) (ls' := [(7, .ref 145), (6, .ref 139), (0, .ref 0), (1, .int 0), (2, .int b), (3, .int 3), (4, .int d), (5, .int e)]) (st' := [.ref 139]) (M' := s_M0) rfl ?_
                      refine s_ek_call (ν := s_e84.1) (P := 35) (as := [.ref 139]) (r := []) (fun _ => rfl) rfl ?_
                      show s_Ek (s_rows 3 L xs) 1298 s_e84.1 0 [(0, .ref 139)] [] s_M0 _
                      refine s_ek_bk 6 (P := 13) (ls' := [(0, .ref 139)]) (st' := [.int 1]) (M' := s_M0) rfl ?_
                      refine s_ek_ret (o := some (.int 1)) (fun _ => rfl) ?_
                      show s_Ek (s_rows 3 L xs) 1299 s_e166.1 35 [(7, .ref 145), (6, .ref 139), (0, .ref 0), (1, .int 0), (2, .int b), (3, .int 3), (4, .int d), (5, .int e)] [.int 1] s_M0 _
                      refine s_ek_bk 2 (P := 48) (ls' := [(7, .ref 145), (6, .ref 139), (0, .ref 0), (1, .int 0), (2, .int b), (3, .int 3), (4, .int d), (5, .int e)]) (st' := [.int (-11)]) (M' := s_M0) rfl ?_
                      refine s_ek_ret (o := some (.int (-11))) (fun _ => rfl) ?_
                      refine ⟨(-11), rfl, ?_⟩
                      show s_Ek (s_rows 3 L xs) 1299 s_e287.1 0 [(0, .ref 151), (1, .int 0), (2, .int b), (3, .int 3), (4, .int d), (5, .int e)] [] s_M0 _
                      refine s_ek_bk 1 (P := 1) (ls' := [(0, .ref 151), (1, .int 0), (2, .int b), (3, .int 3), (4, .int d), (5, .int e)]) (st' := [.int 0]) (M' := s_M0) rfl ?_
                      refine s_ek_call (ν := s_e281.1) (P := 4) (as := [.int 0]) (r := []) (fun _ => rfl) rfl ?_
                      show s_Ek (s_rows 3 L xs) 1298 s_e281.1 0 [(0, .int 0)] [] s_M0 _
                      refine s_ek_bk 3 (P := 3) (ls' := [(0, .int 0)]) (st' := [.int 5, .int 0, .int 0]) (M' := s_M0) rfl ?_
                      refine s_ek_call (ν := s_e181.1) (P := 6) (as := [.int 0, .int 0, .int 5]) (r := []) (fun _ => rfl) rfl ?_
                      show s_Ek (s_rows 3 L xs) 1297 s_e181.1 0 [(0, .int 0), (1, .int 0), (2, .int 5)] [] s_M0 _
                      refine s_ek_bk 8 (P := 15) (ls' := [(0, .int 0), (1, .int 0), (2, .int 5)]) (st' := [.int 1]) (M' := s_M0) rfl ?_
                      refine s_ek_ret (o := some (.int 1)) (fun _ => rfl) ?_
                      show s_Ek (s_rows 3 L xs) 1298 s_e281.1 6 [(0, .int 0)] [.int 1] s_M0 _
                      refine s_ek_ret (o := some (.int 1)) (fun _ => rfl) ?_
                      show s_Ek (s_rows 3 L xs) 1299 s_e287.1 4 [(0, .ref 151), (1, .int 0), (2, .int b), (3, .int 3), (4, .int d), (5, .int e)] [.int 1] s_M0 _
                      refine s_ek_bk 2 (P := 8) (ls' := [(0, .ref 151), (1, .int 0), (2, .int b), (3, .int 3), (4, .int d), (5, .int e)]) (st' := [.int 3]) (M' := s_M0) rfl ?_
                      refine s_ek_call (ν := s_e281.1) (P := 11) (as := [.int 3]) (r := []) (fun _ => rfl) rfl ?_
                      show s_Ek (s_rows 3 L xs) 1298 s_e281.1 0 [(0, .int 3)] [] s_M0 _
                      refine s_ek_bk 3 (P := 3) (ls' := [(0, .int 3)]) (st' := [.int 5, .int 0, .int 3]) (M' := s_M0) rfl ?_
                      refine s_ek_call (ν := s_e181.1) (P := 6) (as := [.int 3, .int 0, .int 5]) (r := []) (fun _ => rfl) rfl ?_
                      show s_Ek (s_rows 3 L xs) 1297 s_e181.1 0 [(0, .int 3), (1, .int 0), (2, .int 5)] [] s_M0 _
                      refine s_ek_bk 8 (P := 15) (ls' := [(0, .int 3), (1, .int 0), (2, .int 5)]) (st' := [.int 1]) (M' := s_M0) rfl ?_
                      refine s_ek_ret (o := some (.int 1)) (fun _ => rfl) ?_
                      show s_Ek (s_rows 3 L xs) 1298 s_e281.1 6 [(0, .int 3)] [.int 1] s_M0 _
                      refine s_ek_ret (o := some (.int 1)) (fun _ => rfl) ?_
                      show s_Ek (s_rows 3 L xs) 1299 s_e287.1 11 [(0, .ref 151), (1, .int 0), (2, .int b), (3, .int 3), (4, .int d), (5, .int e)] [.int 1] s_M0 _
                      refine s_ek_bk 8 (P := 38) (ls' := [(0, .ref 151), (1, .int 0), (2, .int b), (3, .int 3), (4, .int d), (5, .int e)]) (st' := [.int (-11)]) (M' := s_M0) rfl ?_
                      refine s_ek_ret (o := some (.int (-11))) (fun _ => rfl) ?_
                      exact rfl
                    · refine s_ek_bk 6 (P := 33) (ls' := [(0, .ref 0), (1, .int 4)]) (st' := [.ref 147]) (M' := s_M0) rfl ?_
                      refine s_ek_ret (o := some (.ref 147)) (fun _ => rfl) ?_
                      show s_Ek (s_rows 3 L xs) 1299 s_e166.1 28 [(6, .ref 139), (0, .ref 0), (1, .int 0), (2, .int b), (3, .int 4), (4, .int d), (5, .int e)] [.ref 147] s_M0 _
                      refine s_ek_bk 2 (P := 32) (ls' := [(7, .ref 147), (6, .ref 139), (0, .ref 0), (1, .int 0), (2, .int b), (3, .int 4), (4, .int d), (5, .int e)]) (st' := [.ref 139]) (M' := s_M0) rfl ?_
                      refine s_ek_call (ν := s_e84.1) (P := 35) (as := [.ref 139]) (r := []) (fun _ => rfl) rfl ?_
                      show s_Ek (s_rows 3 L xs) 1298 s_e84.1 0 [(0, .ref 139)] [] s_M0 _
                      refine s_ek_bk 6 (P := 13) (ls' := [(0, .ref 139)]) (st' := [.int 1]) (M' := s_M0) rfl ?_
                      refine s_ek_ret (o := some (.int 1)) (fun _ => rfl) ?_
                      show s_Ek (s_rows 3 L xs) 1299 s_e166.1 35 [(7, .ref 147), (6, .ref 139), (0, .ref 0), (1, .int 0), (2, .int b), (3, .int 4), (4, .int d), (5, .int e)] [.int 1] s_M0 _
                      refine s_ek_bk 2 (P := 48) (ls' := [(7, .ref 147), (6, .ref 139), (0, .ref 0), (1, .int 0), (2, .int b), (3, .int 4), (4, .int d), (5, .int e)]) (st' := [.int (-11)]) (M' := s_M0) rfl ?_
                      refine s_ek_ret (o := some (.int (-11))) (fun _ => rfl) ?_
                      refine ⟨(-11), rfl, ?_⟩
                      show s_Ek (s_rows 3 L xs) 1299 s_e287.1 0 [(0, .ref 151), (1, .int 0), (2, .int b), (3, .int 4), (4, .int d), (5, .int e)] [] s_M0 _
                      refine s_ek_bk 1 (P := 1) (ls' := [(0, .ref 151), (1, .int 0), (2, .int b), (3, .int 4), (4, .int d), (5, .int e)]) (st' := [.int 0]) (M' := s_M0) rfl ?_
                      refine s_ek_call (ν := s_e281.1) (P := 4) (as := [.int 0]) (r := []) (fun _ => rfl) rfl ?_
                      show s_Ek (s_rows 3 L xs) 1298 s_e281.1 0 [(0, .int 0)] [] s_M0 _
                      refine s_ek_bk 3 (P := 3) (ls' := [(0, .int 0)]) (st' := [.int 5, .int 0, .int 0]) (M' := s_M0) rfl ?_
                      refine s_ek_call (ν := s_e181.1) (P := 6) (as := [.int 0, .int 0, .int 5]) (r := []) (fun _ => rfl) rfl ?_
                      show s_Ek (s_rows 3 L xs) 1297 s_e181.1 0 [(0, .int 0), (1, .int 0), (2, .int 5)] [] s_M0 _
                      refine s_ek_bk 8 (P := 15) (ls' := [(0, .int 0), (1, .int 0), (2, .int 5)]) (st' := [.int 1]) (M' := s_M0) rfl ?_
                      refine s_ek_ret (o := some (.int 1)) (fun _ => rfl) ?_
                      show s_Ek (s_rows 3 L xs) 1298 s_e281.1 6 [(0, .int 0)] [.int 1] s_M0 _
                      refine s_ek_ret (o := some (.int 1)) (fun _ => rfl) ?_
                      show s_Ek (s_rows 3 L xs) 1299 s_e287.1 4 [(0, .ref 151), (1, .int 0), (2, .int b), (3, .int 4), (4, .int d), (5, .int e)] [.int 1] s_M0 _
                      refine s_ek_bk 2 (P := 8) (ls' := [(0, .ref 151), (1, .int 0), (2, .int b), (3, .int 4), (4, .int d), (5, .int e)]) (st' := [.int 4]) (M' := s_M0) rfl ?_
                      refine s_ek_call (ν := s_e281.1) (P := 11) (as := [.int 4]) (r := []) (fun _ => rfl) rfl ?_
                      show s_Ek (s_rows 3 L xs) 1298 s_e281.1 0 [(0, .int 4)] [] s_M0 _
                      refine s_ek_bk 3 (P := 3) (ls' := [(0, .int 4)]) (st' := [.int 5, .int 0, .int 4]) (M' := s_M0) rfl ?_
                      refine s_ek_call (ν := s_e181.1) (P := 6) (as := [.int 4, .int 0, .int 5]) (r := []) (fun _ => rfl) rfl ?_
                      show s_Ek (s_rows 3 L xs) 1297 s_e181.1 0 [(0, .int 4), (1, .int 0), (2, .int 5)] [] s_M0 _
                      refine s_ek_bk 8 (P := 15) (ls' := [(0, .int 4), (1, .int 0), (2, .int 5)]) (st' := [.int 1]) (M' := s_M0) rfl ?_
                      refine s_ek_ret (o := some (.int 1)) (fun _ => rfl) ?_
                      show s_Ek (s_rows 3 L xs) 1298 s_e281.1 6 [(0, .int 4)] [.int 1] s_M0 _
                      refine s_ek_ret (o := some (.int 1)) (fun _ => rfl) ?_
                      show s_Ek (s_rows 3 L xs) 1299 s_e287.1 11 [(0, .ref 151), (1, .int 0), (2, .int b), (3, .int 4), (4, .int d), (5, .int e)] [.int 1] s_M0 _
                      refine s_ek_bk 8 (P := 38) (ls' := [(0, .ref 151), (1, .int 0), (2, .int b), (3, .int 4), (4, .int d), (5, .int e)]) (st' := [.int (-11)]) (M' := s_M0) rfl ?_
                      refine s_ek_ret (o := some (.int (-11))) (fun _ => rfl) ?_
                      exact rfl
                    · refine s_ek_bk 6 (P := 33) (ls' := [(0, .ref 0), (1, .int 5)]) (st' := [.ref 149]) (M' := s_M0) rfl ?_
                      refine s_ek_ret (o := some (.ref 149)) (fun _ => rfl) ?_
                      show s_Ek (s_rows 3 L xs) 1299 s_e166.1 28 [(6, .ref 139), (0, .ref 0), (1, .int 0), (2, .int b), (3, .int 5), (4, .int d), (5, .int e)] [.ref 149] s_M0 _
                      refine s_ek_bk 2 (P := 32) (ls' := [(7, .ref 149), (6, .ref 139), (0, .ref 0), (1, .int 0), (2, .int b), (3, .int 5), (4, .int d), (5, .int e)]) (st' := [.ref 139]) (M' := s_M0) rfl ?_
                      refine s_ek_call (ν := s_e84.1) (P := 35) (as := [.ref 139]) (r := []) (fun _ => rfl) rfl ?_
                      show s_Ek (s_rows 3 L xs) 1298 s_e84.1 0 [(0, .ref 139)] [] s_M0 _
                      refine s_ek_bk 6 (P := 13) (ls' := [(0, .ref 139)]) (st' := [.int 1]) (M' := s_M0) rfl ?_
                      refine s_ek_ret (o := some (.int 1)) (fun _ => rfl) ?_
                      show s_Ek (s_rows 3 L xs) 1299 s_e166.1 35 [(7, .ref 149), (6, .ref 139), (0, .ref 0), (1, .int 0), (2, .int b), (3, .int 5), (4, .int d), (5, .int e)] [.int 1] s_M0 _
                      refine s_ek_bk 2 (P := 48) (ls' := [(7, .ref 149), (6, .ref 139), (0, .ref 0), (1, .int 0), (2, .int b), (3, .int 5), (4, .int d), (5, .int e)]) (st' := [.int (-11)]) (M' := s_M0) rfl ?_
                      refine s_ek_ret (o := some (.int (-11))) (fun _ => rfl) ?_
                      refine ⟨(-11), rfl, ?_⟩
                      show s_Ek (s_rows 3 L xs) 1299 s_e287.1 0 [(0, .ref 151), (1, .int 0), (2, .int b), (3, .int 5), (4, .int d), (5, .int e)] [] s_M0 _
                      refine s_ek_bk 1 (P := 1) (ls' := [(0, .ref 151), (1, .int 0), (2, .int b), (3, .int 5), (4, .int d), (5, .int e)]) (st' := [.int 0]) (M' := s_M0) rfl ?_
                      refine s_ek_call (ν := s_e281.1) (P := 4) (as := [.int 0]) (r := []) (fun _ => rfl) rfl ?_
                      show s_Ek (s_rows 3 L xs) 1298 s_e281.1 0 [(0, .int 0)] [] s_M0 _
                      refine s_ek_bk 3 (P := 3) (ls' := [(0, .int 0)]) (st' := [.int 5, .int 0, .int 0]) (M' := s_M0) rfl ?_
                      refine s_ek_call (ν := s_e181.1) (P := 6) (as := [.int 0, .int 0, .int 5]) (r := []) (fun _ => rfl) rfl ?_
                      show s_Ek (s_rows 3 L xs) 1297 s_e181.1 0 [(0, .int 0), (1, .int 0), (2, .int 5)] [] s_M0 _
                      refine s_ek_bk 8 (P := 15) (ls' := [(0, .int 0), (1, .int 0), (2, .int 5)]) (st' := [.int 1]) (M' := s_M0) rfl ?_
                      refine s_ek_ret (o := some (.int 1)) (fun _ => rfl) ?_
                      show s_Ek (s_rows 3 L xs) 1298 s_e281.1 6 [(0, .int 0)] [.int 1] s_M0 _
                      refine s_ek_ret (o := some (.int 1)) (fun _ => rfl) ?_
                      show s_Ek (s_rows 3 L xs) 1299 s_e287.1 4 [(0, .ref 151), (1, .int 0), (2, .int b), (3, .int 5), (4, .int d), (5, .int e)] [.int 1] s_M0 _
                      refine s_ek_bk 2 (P := 8) (ls' := [(0, .ref 151), (1, .int 0), (2, .int b), (3, .int 5), (4, .int d), (5, .int e)]) (st' := [.int 5]) (M' := s_M0) rfl ?_
                      refine s_ek_call (ν := s_e281.1) (P := 11) (as := [.int 5]) (r := []) (fun _ => rfl) rfl ?_
                      show s_Ek (s_rows 3 L xs) 1298 s_e281.1 0 [(0, .int 5)] [] s_M0 _
                      refine s_ek_bk 3 (P := 3) (ls' := [(0, .int 5)]) (st' := [.int 5, .int 0, .int 5]) (M' := s_M0) rfl ?_
                      refine s_ek_call (ν := s_e181.1) (P := 6) (as := [.int 5, .int 0, .int 5]) (r := []) (fun _ => rfl) rfl ?_
                      show s_Ek (s_rows 3 L xs) 1297 s_e181.1 0 [(0, .int 5), (1, .int 0), (2, .int 5)] [] s_M0 _
                      refine s_ek_bk 8 (P := 15) (ls' := [(0, .int 5), (1, .int 0), (2, .int 5)]) (st' := [.int 1]) (M' := s_M0) rfl ?_
                      refine s_ek_ret (o := some (.int 1)) (fun _ => rfl) ?_
                      show s_Ek (s_rows 3 L xs) 1298 s_e281.1 6 [(0, .int 5)] [.int 1] s_M0 _
                      refine s_ek_ret (o := some (.int 1)) (fun _ => rfl) ?_
                      show s_Ek (s_rows 3 L xs) 1299 s_e287.1 11 [(0, .ref 151), (1, .int 0), (2, .int b), (3, .int 5), (4, .int d), (5, .int e)] [.int 1] s_M0 _
                      refine s_ek_bk 8 (P := 38) (ls' := [(0, .ref 151), (1, .int 0), (2, .int b), (3, .int 5), (4, .int d), (5, .int e)]) (st' := [.int (-11)]) (M' := s_M0) rfl ?_
                      refine s_ek_ret (o := some (.int (-11))) (fun _ => rfl) ?_
                      exact rfl
              · refine s_ek_bk 6 (P := 33) (ls' := [(0, .ref 0), (1, .int 1)]) (st' := [.ref 141]) (M' := s_M0) rfl ?_
                refine s_ek_ret (o := some (.ref 141)) (fun _ => rfl) ?_
                show s_Ek (s_rows 3 L xs) 1299 s_e166.1 21 [(0, .ref 0), (1, .int 1), (2, .int b), (3, .int c), (4, .int d), (5, .int e)] [.ref 141] s_M0 _
                refine s_ek_bk 3 (P := 25) (ls' := [(6, .ref 141), (0, .ref 0), (1, .int 1), (2, .int b), (3, .int c), (4, .int d), (5, .int e)]) (st' := [.int c, .ref 0]) (M' := s_M0) rfl ?_
                refine s_ek_call (ν := s_e176.1) (P := 28) (as := [.ref 0, .int c]) (r := []) (fun _ => rfl) rfl ?_
                show s_Ek (s_rows 3 L xs) 1298 s_e176.1 0 [(0, .ref 0), (1, .int c)] [] s_M0 _
                refine s_ek_bk 1 (P := 1) (ls' := [(0, .ref 0), (1, .int c)]) (st' := [.int c]) (M' := s_M0) rfl ?_
                refine s_ek_if1 (T := 22) rfl rfl (fun h7 => ?_) (fun h7 => ?_)
                · replace h7 : c.toInt < 0 := h7
                  omega
                · replace h7 : ¬ (c.toInt < 0) := h7
                  replace h7 : 0 ≤ c.toInt := by omega
                  refine s_ek_bk 4 (P := 10) (ls' := [(0, .ref 0), (1, .int c)]) (st' := [.int 6, .int c]) (M' := s_M0) rfl ?_
                  refine s_ek_if2 (T := 22) rfl rfl (fun h8 => ?_) (fun h8 => ?_)
                  · replace h8 : 6 ≤ c.toInt := h8
                    omega
                  · replace h8 : ¬ (6 ≤ c.toInt) := h8
                    replace h8 : c.toInt < 6 := by omega
                    refine s_ek_bk 3 (P := 18) (ls' := [(0, .ref 0), (1, .int c)]) (st' := [.int c, .ref 135]) (M' := s_M0) rfl ?_
                    rcases s_rg_0_5 (a := c) (by omega) (by omega) with rfl | rfl | rfl | rfl | rfl | rfl
                    · refine s_ek_bk 6 (P := 33) (ls' := [(0, .ref 0), (1, .int 0)]) (st' := [.ref 139]) (M' := s_M0) rfl ?_
                      refine s_ek_ret (o := some (.ref 139)) (fun _ => rfl) ?_
                      show s_Ek (s_rows 3 L xs) 1299 s_e166.1 28 [(6, .ref 141), (0, .ref 0), (1, .int 1), (2, .int b), (3, .int 0), (4, .int d), (5, .int e)] [.ref 139] s_M0 _
                      refine s_ek_bk 2 (P := 32) (ls' := [(7, .ref 139), (6, .ref 141), (0, .ref 0), (1, .int 1), (2, .int b), (3, .int 0), (4, .int d), (5, .int e)]) (st' := [.ref 141]) (M' := s_M0) rfl ?_
                      refine s_ek_call (ν := s_e84.1) (P := 35) (as := [.ref 141]) (r := []) (fun _ => rfl) rfl ?_
                      show s_Ek (s_rows 3 L xs) 1298 s_e84.1 0 [(0, .ref 141)] [] s_M0 _
                      refine s_ek_bk 6 (P := 13) (ls' := [(0, .ref 141)]) (st' := [.int 1]) (M' := s_M0) rfl ?_
                      refine s_ek_ret (o := some (.int 1)) (fun _ => rfl) ?_
                      show s_Ek (s_rows 3 L xs) 1299 s_e166.1 35 [(7, .ref 139), (6, .ref 141), (0, .ref 0), (1, .int 1), (2, .int b), (3, .int 0), (4, .int d), (5, .int e)] [.int 1] s_M0 _
                      refine s_ek_bk 2 (P := 48) (ls' := [(7, .ref 139), (6, .ref 141), (0, .ref 0), (1, .int 1), (2, .int b), (3, .int 0), (4, .int d), (5, .int e)]) (st' := [.int (-11)]) (M' := s_M0) rfl ?_
                      refine s_ek_ret (o := some (.int (-11))) (fun _ => rfl) ?_
                      refine ⟨(-11), rfl, ?_⟩
                      show s_Ek (s_rows 3 L xs) 1299 s_e287.1 0 [(0, .ref 151), (1, .int 1), (2, .int b), (3, .int 0), (4, .int d), (5, .int e)] [] s_M0 _
                      refine s_ek_bk 1 (P := 1) (ls' := [(0, .ref 151), (1, .int 1), (2, .int b), (3, .int 0), (4, .int d), (5, .int e)]) (st' := [.int 1]) (M' := s_M0) rfl ?_
                      refine s_ek_call (ν := s_e281.1) (P := 4) (as := [.int 1]) (r := []) (fun _ => rfl) rfl ?_
                      show s_Ek (s_rows 3 L xs) 1298 s_e281.1 0 [(0, .int 1)] [] s_M0 _
                      refine s_ek_bk 3 (P := 3) (ls' := [(0, .int 1)]) (st' := [.int 5, .int 0, .int 1]) (M' := s_M0) rfl ?_
                      refine s_ek_call (ν := s_e181.1) (P := 6) (as := [.int 1, .int 0, .int 5]) (r := []) (fun _ => rfl) rfl ?_
                      show s_Ek (s_rows 3 L xs) 1297 s_e181.1 0 [(0, .int 1), (1, .int 0), (2, .int 5)] [] s_M0 _
                      refine s_ek_bk 8 (P := 15) (ls' := [(0, .int 1), (1, .int 0), (2, .int 5)]) (st' := [.int 1]) (M' := s_M0) rfl ?_
                      refine s_ek_ret (o := some (.int 1)) (fun _ => rfl) ?_
                      show s_Ek (s_rows 3 L xs) 1298 s_e281.1 6 [(0, .int 1)] [.int 1] s_M0 _
                      refine s_ek_ret (o := some (.int 1)) (fun _ => rfl) ?_
                      show s_Ek (s_rows 3 L xs) 1299 s_e287.1 4 [(0, .ref 151), (1, .int 1), (2, .int b), (3, .int 0), (4, .int d), (5, .int e)] [.int 1] s_M0 _
                      refine s_ek_bk 2 (P := 8) (ls' := [(0, .ref 151), (1, .int 1), (2, .int b), (3, .int 0), (4, .int d), (5, .int e)]) (st' := [.int 0]) (M' := s_M0) rfl ?_
                      refine s_ek_call (ν := s_e281.1) (P := 11) (as := [.int 0]) (r := []) (fun _ => rfl) rfl ?_
                      show s_Ek (s_rows 3 L xs) 1298 s_e281.1 0 [(0, .int 0)] [] s_M0 _
                      refine s_ek_bk 3 (P := 3) (ls' := [(0, .int 0)]) (st' := [.int 5, .int 0, .int 0]) (M' := s_M0) rfl ?_
                      refine s_ek_call (ν := s_e181.1) (P := 6) (as := [.int 0, .int 0, .int 5]) (r := []) (fun _ => rfl) rfl ?_
                      show s_Ek (s_rows 3 L xs) 1297 s_e181.1 0 [(0, .int 0), (1, .int 0), (2, .int 5)] [] s_M0 _
                      refine s_ek_bk 8 (P := 15) (ls' := [(0, .int 0), (1, .int 0), (2, .int 5)]) (st' := [.int 1]) (M' := s_M0) rfl ?_
                      refine s_ek_ret (o := some (.int 1)) (fun _ => rfl) ?_
                      show s_Ek (s_rows 3 L xs) 1298 s_e281.1 6 [(0, .int 0)] [.int 1] s_M0 _
                      refine s_ek_ret (o := some (.int 1)) (fun _ => rfl) ?_
                      show s_Ek (s_rows 3 L xs) 1299 s_e287.1 11 [(0, .ref 151), (1, .int 1), (2, .int b), (3, .int 0), (4, .int d), (5, .int e)] [.int 1] s_M0 _
                      refine s_ek_bk 8 (P := 38) (ls' := [(0, .ref 151), (1, .int 1), (2, .int b), (3, .int 0), (4, .int d), (5, .int e)]) (st' := [.int (-11)]) (M' := s_M0) rfl ?_
                      refine s_ek_ret (o := some (.int (-11))) (fun _ => rfl) ?_
                      exact rfl
                    · refine s_ek_bk 6 (P := 33) (ls' := [(0, .ref 0), (1, .int 1)]) (st' := [.ref 141]) (M' := s_M0) rfl ?_
                      refine s_ek_ret (o := some (.ref 141)) (fun _ => rfl) ?_
                      show s_Ek (s_rows 3 L xs) 1299 s_e166.1 28 [(6, .ref 141), (0, .ref 0), (1, .int 1), (2, .int b), (3, .int 1), (4, .int d), (5, .int e)] [.ref 141] s_M0 _
                      refine s_ek_bk 2 (P := 32) (ls' := [(7, .ref 141), (6, .ref 141), (0, .ref 0), (1, .int 1), (2, .int b), (3, .int 1), (4, .int d), (5, .int e)]) (st' := [.ref 141]) (M' := s_M0) rfl ?_
                      refine s_ek_call (ν := s_e84.1) (P := 35) (as := [.ref 141]) (r := []) (fun _ => rfl) rfl ?_
                      show s_Ek (s_rows 3 L xs) 1298 s_e84.1 0 [(0, .ref 141)] [] s_M0 _
                      refine s_ek_bk 6 (P := 13) (ls' := [(0, .ref 141)]) (st' := [.int 1]) (M' := s_M0) rfl ?_
                      refine s_ek_ret (o := some (.int 1)) (fun _ => rfl) ?_
                      show s_Ek (s_rows 3 L xs) 1299 s_e166.1 35 [(7, .ref 141), (6, .ref 141), (0, .ref 0), (1, .int 1), (2, .int b), (3, .int 1), (4, .int d), (5, .int e)] [.int 1] s_M0 _
                      refine s_ek_bk 2 (P := 48) (ls' := [(7, .ref 141), (6, .ref 141), (0, .ref 0), (1, .int 1), (2, .int b), (3, .int 1), (4, .int d), (5, .int e)]) (st' := [.int (-11)]) (M' := s_M0) rfl ?_
                      refine s_ek_ret (o := some (.int (-11))) (fun _ => rfl) ?_
                      refine ⟨(-11), rfl, ?_⟩
                      show s_Ek (s_rows 3 L xs) 1299 s_e287.1 0 [(0, .ref 151), (1, .int 1), (2, .int b), (3, .int 1), (4, .int d), (5, .int e)] [] s_M0 _
                      refine s_ek_bk 1 (P := 1) (ls' := [(0, .ref 151), (1, .int 1), (2, .int b), (3, .int 1), (4, .int d), (5, .int e)]) (st' := [.int 1]) (M' := s_M0) rfl ?_
                      refine s_ek_call (ν := s_e281.1) (P := 4) (as := [.int 1]) (r := []) (fun _ => rfl) rfl ?_
                      show s_Ek (s_rows 3 L xs) 1298 s_e281.1 0 [(0, .int 1)] [] s_M0 _
                      refine s_ek_bk 3 (P := 3) (ls' := [(0, .int 1)]) (st' := [.int 5, .int 0, .int 1]) (M' := s_M0) rfl ?_
                      refine s_ek_call (ν := s_e181.1) (P := 6) (as := [.int 1, .int 0, .int 5]) (r := []) (fun _ => rfl) rfl ?_
                      show s_Ek (s_rows 3 L xs) 1297 s_e181.1 0 [(0, .int 1), (1, .int 0), (2, .int 5)] [] s_M0 _
                      refine s_ek_bk 8 (P := 15) (ls' := [(0, .int 1), (1, .int 0), (2, .int 5)]) (st' := [.int 1]) (M' := s_M0) rfl ?_
                      refine s_ek_ret (o := some (.int 1)) (fun _ => rfl) ?_
                      show s_Ek (s_rows 3 L xs) 1298 s_e281.1 6 [(0, .int 1)] [.int 1] s_M0 _
                      refine s_ek_ret (o := some (.int 1)) (fun _ => rfl) ?_
                      show s_Ek (s_rows 3 L xs) 1299 s_e287.1 4 [(0, .ref 151), (1, .int 1), (2, .int b), (3, .int 1), (4, .int d), (5, .int e)] [.int 1] s_M0 _
                      refine s_ek_bk 2 (P := 8) (ls' := [(0, .ref 151), (1, .int 1), (2, .int b), (3, .int 1), (4, .int d), (5, .int e)]) (st' := [.int 1]) (M' := s_M0) rfl ?_
                      refine s_ek_call (ν := s_e281.1) (P := 11) (as := [.int 1]) (r := []) (fun _ => rfl) rfl ?_
                      show s_Ek (s_rows 3 L xs) 1298 s_e281.1 0 [(0, .int 1)] [] s_M0 _
                      refine s_ek_bk 3 (P := 3) (ls' := [(0, .int 1)]) (st' := [.int 5, .int 0, .int 1]) (M' := s_M0) rfl ?_
                      refine s_ek_call (ν := s_e181.1) (P := 6) (as := [.int 1, .int 0, .int 5]) (r := []) (fun _ => rfl) rfl ?_
                      show s_Ek (s_rows 3 L xs) 1297 s_e181.1 0 [(0, .int 1), (1, .int 0), (2, .int 5)] [] s_M0 _
                      refine s_ek_bk 8 (P := 15) (ls' := [(0, .int 1), (1, .int 0), (2, .int 5)]) (st' := [.int 1]) (M' := s_M0) rfl ?_
                      refine s_ek_ret (o := some (.int 1)) (fun _ => rfl) ?_
                      show s_Ek (s_rows 3 L xs) 1298 s_e281.1 6 [(0, .int 1)] [.int 1] s_M0 _
                      refine s_ek_ret (o := some (.int 1)) (fun _ => rfl) ?_
                      show s_Ek (s_rows 3 L xs) 1299 s_e287.1 11 [(0, .ref 151), (1, .int 1), (2, .int b), (3, .int 1), (4, .int d), (5, .int e)] [.int 1] s_M0 _
                      refine s_ek_bk 8 (P := 38) (ls' := [(0, .ref 151), (1, .int 1), (2, .int b), (3, .int 1), (4, .int d), (5, .int e)]) (st' := [.int (-11)]) (M' := s_M0) rfl ?_
                      refine s_ek_ret (o := some (.int (-11))) (fun _ => rfl) ?_
                      exact rfl
                    · refine s_ek_bk 6 (P := 33) (ls' := [(0, .ref 0), (1, .int 2)]) (st' := [.ref 143]) (M' := s_M0) rfl ?_
                      refine s_ek_ret (o := some (.ref 143)) (fun _ => rfl) ?_
                      show s_Ek (s_rows 3 L xs) 1299 s_e166.1 28 [(6, .ref 141), (0, .ref 0), (1, .int 1), (2, .int b), (3, .int 2), (4, .int d), (5, .int e)] [.ref 143] s_M0 _
                      refine s_ek_bk 2 (P := 32) (ls' := [(7, .ref 143), (6, .ref 141), (0, .ref 0), (1, .int 1), (2, .int b), (3, .int 2), (4, .int d), (5, .int e)]) (st' := [.ref 141]) (M' := s_M0) rfl ?_
                      refine s_ek_call (ν := s_e84.1) (P := 35) (as := [.ref 141]) (r := []) (fun _ => rfl) rfl ?_
                      show s_Ek (s_rows 3 L xs) 1298 s_e84.1 0 [(0, .ref 141)] [] s_M0 _
                      refine s_ek_bk 6 (P := 13) (ls' := [(0, .ref 141)]) (st' := [.int 1]) (M' := s_M0) rfl ?_
                      refine s_ek_ret (o := some (.int 1)) (fun _ => rfl) ?_
                      show s_Ek (s_rows 3 L xs) 1299 s_e166.1 35 [(7, .ref 143), (6, .ref 141), (0, .ref 0), (1, .int 1), (2, .int b), (3, .int 2), (4, .int d), (5, .int e)] [.int 1] s_M0 _
                      refine s_ek_bk 2 (P := 48) (ls' := [(7, .ref 143), (6, .ref 141), (0, .ref 0), (1, .int 1), (2, .int b), (3, .int 2), (4, .int d), (5, .int e)]) (st' := [.int (-11)]) (M' := s_M0) rfl ?_
                      refine s_ek_ret (o := some (.int (-11))) (fun _ => rfl) ?_
                      refine ⟨(-11), rfl, ?_⟩
                      show s_Ek (s_rows 3 L xs) 1299 s_e287.1 0 [(0, .ref 151), (1, .int 1), (2, .int b), (3, .int 2), (4, .int d), (5, .int e)] [] s_M0 _
                      refine s_ek_bk 1 (P := 1) (ls' := [(0, .ref 151), (1, .int 1), (2, .int b), (3, .int 2), (4, .int d), (5, .int e)]) (st' := [.int 1]) (M' := s_M0) rfl ?_
                      refine s_ek_call (ν := s_e281.1) (P := 4) (as := [.int 1]) (r := []) (fun _ => rfl) rfl ?_
                      show s_Ek (s_rows 3 L xs) 1298 s_e281.1 0 [(0, .int 1)] [] s_M0 _
                      refine s_ek_bk 3 (P := 3) (ls' := [(0, .int 1)]) (st' := [.int 5, .int 0, .int 1]) (M' := s_M0) rfl ?_
                      refine s_ek_call (ν := s_e181.1) (P := 6) (as := [.int 1, .int 0, .int 5]) (r := []) (fun _ => rfl) rfl ?_
                      show s_Ek (s_rows 3 L xs) 1297 s_e181.1 0 [(0, .int 1), (1, .int 0), (2, .int 5)] [] s_M0 _
                      refine s_ek_bk 8 (P := 15) (ls' := [(0, .int 1), (1, .int 0), (2, .int 5)]) (st' := [.int 1]) (M' := s_M0) rfl ?_
                      refine s_ek_ret (o := some (.int 1)) (fun _ => rfl) ?_
                      show s_Ek (s_rows 3 L xs) 1298 s_e281.1 6 [(0, .int 1)] [.int 1] s_M0 _
                      refine s_ek_ret (o := some (.int 1)) (fun _ => rfl) ?_
                      show s_Ek (s_rows 3 L xs) 1299 s_e287.1 4 [(0, .ref 151), (1, .int 1), (2, .int b), (3, .int 2), (4, .int d), (5, .int e)] [.int 1] s_M0 _
                      refine s_ek_bk 2 (P := 8) (ls' := [(0, .ref 151), (1, .int 1), (2, .int b), (3, .int 2), (4, .int d), (5, .int e)]) (st' := [.int 2]) (M' := s_M0) rfl ?_
                      refine s_ek_call (ν := s_e281.1) (P := 11) (as := [.int 2]) (r := []) (fun _ => rfl) rfl ?_
                      show s_Ek (s_rows 3 L xs) 1298 s_e281.1 0 [(0, .int 2)] [] s_M0 _
                      refine s_ek_bk 3 (P := 3) (ls' := [(0, .int 2)]) (st' := [.int 5, .int 0, .int 2]) (M' := s_M0) rfl ?_
                      refine s_ek_call (ν := s_e181.1) (P := 6) (as := [.int 2, .int 0, .int 5]) (r := []) (fun _ => rfl) rfl ?_
                      show s_Ek (s_rows 3 L xs) 1297 s_e181.1 0 [(0, .int 2), (1, .int 0), (2, .int 5)] [] s_M0 _
                      refine s_ek_bk 8 (P := 15) (ls' := [(0, .int 2), (1, .int 0), (2, .int 5)]) (st' := [.int 1]) (M' := s_M0) rfl ?_
                      refine s_ek_ret (o := some (.int 1)) (fun _ => rfl) ?_
                      show s_Ek (s_rows 3 L xs) 1298 s_e281.1 6 [(0, .int 2)] [.int 1] s_M0 _
                      refine s_ek_ret (o := some (.int 1)) (fun _ => rfl) ?_
                      show s_Ek (s_rows 3 L xs) 1299 s_e287.1 11 [(0, .ref 151), (1, .int 1), (2, .int b), (3, .int 2), (4, .int d), (5, .int e)] [.int 1] s_M0 _
                      refine s_ek_bk 8 (P := 38) (ls' := [(0, .ref 151), (1, .int 1), (2, .int b), (3, .int 2), (4, .int d), (5, .int e)]) (st' := [.int (-11)]) (M' := s_M0) rfl ?_
                      refine s_ek_ret (o := some (.int (-11))) (fun _ => rfl) ?_
                      exact rfl
                    · refine s_ek_bk 6 (P := 33) (ls' := [(0, .ref 0), (1, .int 3)]) (st' := [.ref 145]) (M' := s_M0) rfl ?_
                      refine s_ek_ret (o := some (.ref 145)) (fun _ => rfl) ?_
                      show s_Ek (s_rows 3 L xs) 1299 s_e166.1 28 [(6, .ref 141), (0, .ref 0), (1, .int 1), (2, .int b), (3, .int 3), (4, .int d), (5, .int e)] [.ref 145] s_M0 _
                      refine s_ek_bk 2 (P := 32) (ls' := [(7, .ref 145), (6, .ref 141), (0, .ref 0), (1, .int 1), (2, .int b), (3, .int 3), (4, .int d), (5, .int e)]) (st' := [.ref 141]) (M' := s_M0) rfl ?_
                      refine s_ek_call (ν := s_e84.1) (P := 35) (as := [.ref 141]) (r := []) (fun _ => rfl) rfl ?_
                      show s_Ek (s_rows 3 L xs) 1298 s_e84.1 0 [(0, .ref 141)] [] s_M0 _
                      refine s_ek_bk 6 (P := 13) (ls' := [(0, .ref 141)]) (st' := [.int 1]) (M' := s_M0) rfl ?_
                      refine s_ek_ret (o := some (.int 1)) (fun _ => rfl) ?_
                      show s_Ek (s_rows 3 L xs) 1299 s_e166.1 35 [(7, .ref 145), (6, .ref 141), (0, .ref 0), (1, .int 1), (2, .int b), (3, .int 3), (4, .int d), (5, .int e)] [.int 1] s_M0 _
                      refine s_ek_bk 2 (P := 48) (ls' := [(7, .ref 145), (6, .ref 141), (0, .ref 0), (1, .int 1), (2, .int b), (3, .int 3), (4, .int d), (5, .int e)]) (st' := [.int (-11)]) (M' := s_M0) rfl ?_
                      refine s_ek_ret (o := some (.int (-11))) (fun _ => rfl) ?_
                      refine ⟨(-11), rfl, ?_⟩
                      show s_Ek (s_rows 3 L xs) 1299 s_e287.1 0 [(0, .ref 151), (1, .int 1), (2, .int b), (3, .int 3), (4, .int d), (5, .int e)] [] s_M0 _
                      refine s_ek_bk 1 (P := 1) (ls' := [(0, .ref 151), (1, .int 1), (2, .int b), (3, .int 3), (4, .int d), (5, .int e)]) (st' := [.int 1]) (M' := s_M0) rfl ?_
                      refine s_ek_call (ν := s_e281.1) (P := 4) (as := [.int 1]) (r := []) (fun _ => rfl) rfl ?_
                      show s_Ek (s_rows 3 L xs) 1298 s_e281.1 0 [(0, .int 1)] [] s_M0 _
                      refine s_ek_bk 3 (P := 3) (ls' := [(0, .int 1)]) (st' := [.int 5, .int 0, .int 1]) (M' := s_M0) rfl ?_
                      refine s_ek_call (ν := s_e181.1) (P := 6) (as := [.int 1, .int 0, .int 5]) (r := []) (fun _ => rfl) rfl ?_
                      show s_Ek (s_rows 3 L xs) 1297 s_e181.1 0 [(0, .int 1), (1, .int 0), (2, .int 5)] [] s_M0 _
                      refine s_ek_bk 8 (P := 15) (ls' := [(0, .int 1), (1, .int 0), (2, .int 5)]) (st' := [.int 1]) (M' := s_M0) rfl ?_
                      refine s_ek_ret (o := some (.int 1)) (fun _ => rfl) ?_
                      show s_Ek (s_rows 3 L xs) 1298 s_e281.1 6 [(0, .int 1)] [.int 1] s_M0 _
                      refine s_ek_ret (o := some (.int 1)) (fun _ => rfl) ?_
                      show s_Ek (s_rows 3 L xs) 1299 s_e287.1 4 [(0, .ref 151), (1, .int 1), (2, .int b), (3, .int 3), (4, .int d), (5, .int e)] [.int 1] s_M0 _
                      refine s_ek_bk 2 (P := 8) (ls' := [(0, .ref 151), (1, .int 1), (2, .int b), (3, .int 3), (4, .int d), (5, .int e)]) (st' := [.int 3]) (M' := s_M0) rfl ?_
                      refine s_ek_call (ν := s_e281.1) (P := 11) (as := [.int 3]) (r := []) (fun _ => rfl) rfl ?_
                      show s_Ek (s_rows 3 L xs) 1298 s_e281.1 0 [(0, .int 3)] [] s_M0 _
                      refine s_ek_bk 3 (P := 3) (ls' := [(0, .int 3)]) (st' := [.int 5, .int 0, .int 3]) (M' := s_M0) rfl ?_
                      refine s_ek_call (ν := s_e181.1) (P := 6) (as := [.int 3, .int 0, .int 5]) (r := []) (fun _ => rfl) rfl ?_
                      show s_Ek (s_rows 3 L xs) 1297 s_e181.1 0 [(0, .int 3), (1, .int 0), (2, .int 5)] [] s_M0 _
                      refine s_ek_bk 8 (P := 15) (ls' := [(0, .int 3), (1, .int 0), (2, .int 5)]) (st' := [.int 1]) (M' := s_M0) rfl ?_
                      refine s_ek_ret (o := some (.int 1)) (fun _ => rfl) ?_
                      show s_Ek (s_rows 3 L xs) 1298 s_e281.1 6 [(0, .int 3)] [.int 1] s_M0 _
                      refine s_ek_ret (o := some (.int 1)) (fun _ => rfl) ?_
                      show s_Ek (s_rows 3 L xs) 1299 s_e287.1 11 [(0, .ref 151), (1, .int 1), (2, .int b), (3, .int 3), (4, .int d), (5, .int e)] [.int 1] s_M0 _
                      refine s_ek_bk 8 (P := 38) (ls' := [(0, .ref 151), (1, .int 1), (2, .int b), (3, .int 3), (4, .int d), (5, .int e)]) (st' := [.int (-11)]) (M' := s_M0) rfl ?_
                      refine s_ek_ret (o := some (.int (-11))) (fun _ => rfl) ?_
                      exact rfl
                    · refine s_ek_bk 6 (P := 33) (ls' := [(0, .ref 0), (1, .int 4)]) (st' := [.ref 147]) (M' := s_M0) rfl ?_
                      refine s_ek_ret (o := some (.ref 147)) (fun _ => rfl) ?_
                      show s_Ek (s_rows 3 L xs) 1299 s_e166.1 28 [(6, .ref 141), (0, .ref 0), (1, .int 1), (2, .int b), (3, .int 4), (4, .int d), (5, .int e)] [.ref 147] s_M0 _
                      refine s_ek_bk 2 (P := 32) (ls' := [(7, .ref 147), (6, .ref 141), (0, .ref 0), (1, .int 1), (2, .int b), (3, .int 4), (4, .int d), (5, .int e)]) (st' := [.ref 141]) (M' := s_M0) rfl ?_
                      refine s_ek_call (ν := s_e84.1) (P := 35) (as := [.ref 141]) (r := []) (fun _ => rfl) rfl ?_
                      show s_Ek (s_rows 3 L xs) 1298 s_e84.1 0 [(0, .ref 141)] [] s_M0 _
                      refine s_ek_bk 6 (P := 13) (ls' := [(0, .ref 141)]) (st' := [.int 1]) (M' := s_M0) rfl ?_
                      refine s_ek_ret (o := some (.int 1)) (fun _ => rfl) ?_
                      show s_Ek (s_rows 3 L xs) 1299 s_e166.1 35 [(7, .ref 147), (6, .ref 141), (0, .ref 0), (1, .int 1), (2, .int b), (3, .int 4), (4, .int d), (5, .int e)] [.int 1] s_M0 _
                      refine s_ek_bk 2 (P := 48) (ls' := [(7, .ref 147), (6, .ref 141), (0, .ref 0), (1, .int 1), (2, .int b), (3, .int 4), (4, .int d), (5, .int e)]) (st' := [.int (-11)]) (M' := s_M0) rfl ?_
                      refine s_ek_ret (o := some (.int (-11))) (fun _ => rfl) ?_
                      refine ⟨(-11), rfl, ?_⟩
                      show s_Ek (s_rows 3 L xs) 1299 s_e287.1 0 [(0, .ref 151), (1, .int 1), (2, .int b), (3, .int 4), (4, .int d), (5, .int e)] [] s_M0 _
                      refine s_ek_bk 1 (P := 1) (ls' := [(0, .ref 151), (1, .int 1), (2, .int b), (3, .int 4), (4, .int d), (5, .int e)]) (st' := [.int 1]) (M' := s_M0) rfl ?_
                      refine s_ek_call (ν := s_e281.1) (P := 4) (as := [.int 1]) (r := []) (fun _ => rfl) rfl ?_
                      show s_Ek (s_rows 3 L xs) 1298 s_e281.1 0 [(0, .int 1)] [] s_M0 _
                      refine s_ek_bk 3 (P := 3) (ls' := [(0, .int 1)]) (st' := [.int 5, .int 0, .int 1]) (M' := s_M0) rfl ?_
                      refine s_ek_call (ν := s_e181.1) (P := 6) (as := [.int 1, .int 0, .int 5]) (r := []) (fun _ => rfl) rfl ?_
                      show s_Ek (s_rows 3 L xs) 1297 s_e181.1 0 [(0, .int 1), (1, .int 0), (2, .int 5)] [] s_M0 _
                      refine s_ek_bk 8 (P := 15) (ls' := [(0, .int 1), (1, .int 0), (2, .int 5)]) (st' := [.int 1]) (M' := s_M0) rfl ?_
                      refine s_ek_ret (o := some (.int 1)) (fun _ => rfl) ?_
                      show s_Ek (s_rows 3 L xs) 1298 s_e281.1 6 [(0, .int 1)] [.int 1] s_M0 _
                      refine s_ek_ret (o := some (.int 1)) (fun _ => rfl) ?_
                      show s_Ek (s_rows 3 L xs) 1299 s_e287.1 4 [(0, .ref 151), (1, .int 1), (2, .int b), (3, .int 4), (4, .int d), (5, .int e)] [.int 1] s_M0 _
                      refine s_ek_bk 2 (P := 8) (ls' := [(0, .ref 151), (1, .int 1), (2, .int b), (3, .int 4), (4, .int d), (5, .int e)]) (st' := [.int 4]) (M' := s_M0) rfl ?_
                      refine s_ek_call (ν := s_e281.1) (P := 11) (as := [.int 4]) (r := []) (fun _ => rfl) rfl ?_
                      show s_Ek (s_rows 3 L xs) 1298 s_e281.1 0 [(0, .int 4)] [] s_M0 _
                      refine s_ek_bk 3 (P := 3) (ls' := [(0, .int 4)]) (st' := [.int 5, .int 0, .int 4]) (M' := s_M0) rfl ?_
                      refine s_ek_call (ν := s_e181.1) (P := 6) (as := [.int 4, .int 0, .int 5]) (r := []) (fun _ => rfl) rfl ?_
                      show s_Ek (s_rows 3 L xs) 1297 s_e181.1 0 [(0, .int 4), (1, .int 0), (2, .int 5)] [] s_M0 _
                      refine s_ek_bk 8 (P := 15) (ls' := [(0, .int 4), (1, .int 0), (2, .int 5)]) (st' := [.int 1]) (M' := s_M0) rfl ?_
                      refine s_ek_ret (o := some (.int 1)) (fun _ => rfl) ?_
                      show s_Ek (s_rows 3 L xs) 1298 s_e281.1 6 [(0, .int 4)] [.int 1] s_M0 _
                      refine s_ek_ret (o := some (.int 1)) (fun _ => rfl) ?_
                      show s_Ek (s_rows 3 L xs) 1299 s_e287.1 11 [(0, .ref 151), (1, .int 1), (2, .int b), (3, .int 4), (4, .int d), (5, .int e)] [.int 1] s_M0 _
                      refine s_ek_bk 8 (P := 38) (ls' := [(0, .ref 151), (1, .int 1), (2, .int b), (3, .int 4), (4, .int d), (5, .int e)]) (st' := [.int (-11)]) (M' := s_M0) rfl ?_
                      refine s_ek_ret (o := some (.int (-11))) (fun _ => rfl) ?_
                      exact rfl
                    · refine s_ek_bk 6 (P := 33) (ls' := [(0, .ref 0), (1, .int 5)]) (st' := [.ref 149]) (M' := s_M0) rfl ?_
                      refine s_ek_ret (o := some (.ref 149)) (fun _ => rfl) ?_
                      show s_Ek (s_rows 3 L xs) 1299 s_e166.1 28 [(6, .ref 141), (0, .ref 0), (1, .int 1), (2, .int b), (3, .int 5), (4, .int d), (5, .int e)] [.ref 149] s_M0 _
                      refine s_ek_bk 2 (P := 32) (ls' := [(7, .ref 149), (6, .ref 141), (0, .ref 0), (1, .int 1), (2, .int b), (3, .int 5), (4, .int d), (5, .int e)]) (st' := [.ref 141]) (M' := s_M0) rfl ?_
                      refine s_ek_call (ν := s_e84.1) (P := 35) (as := [.ref 141]) (r := []) (fun _ => rfl) rfl ?_
                      show s_Ek (s_rows 3 L xs) 1298 s_e84.1 0 [(0, .ref 141)] [] s_M0 _
                      refine s_ek_bk 6 (P := 13) (ls' := [(0, .ref 141)]) (st' := [.int 1]) (M' := s_M0) rfl ?_
                      refine s_ek_ret (o := some (.int 1)) (fun _ => rfl) ?_
                      show s_Ek (s_rows 3 L xs) 1299 s_e166.1 35 [(7, .ref 149), (6, .ref 141), (0, .ref 0), (1, .int 1), (2, .int b), (3, .int 5), (4, .int d), (5, .int e)] [.int 1] s_M0 _
                      refine s_ek_bk 2 (P := 48) (ls' := [(7, .ref 149), (6, .ref 141), (0, .ref 0), (1, .int 1), (2, .int b), (3, .int 5), (4, .int d), (5, .int e)]) (st' := [.int (-11)]) (M' := s_M0) rfl ?_
                      refine s_ek_ret (o := some (.int (-11))) (fun _ => rfl) ?_
                      refine ⟨(-11), rfl, ?_⟩
                      show s_Ek (s_rows 3 L xs) 1299 s_e287.1 0 [(0, .ref 151), (1, .int 1), (2, .int b), (3, .int 5), (4, .int d), (5, .int e)] [] s_M0 _
                      refine s_ek_bk 1 (P := 1) (ls' := [(0, .ref 151), (1, .int 1), (2, .int b), (3, .int 5), (4, .int d), (5, .int e)]) (st' := [.int 1]) (M' := s_M0) rfl ?_
                      refine s_ek_call (ν := s_e281.1) (P := 4) (as := [.int 1]) (r := []) (fun _ => rfl) rfl ?_
                      show s_Ek (s_rows 3 L xs) 1298 s_e281.1 0 [(0, .int 1)] [] s_M0 _
                      refine s_ek_bk 3 (P := 3) (ls' := [(0, .int 1)]) (st' := [.int 5, .int 0, .int 1]) (M' := s_M0) rfl ?_
                      refine s_ek_call (ν := s_e181.1) (P := 6) (as := [.int 1, .int 0, .int 5]) (r := []) (fun _ => rfl) rfl ?_
                      show s_Ek (s_rows 3 L xs) 1297 s_e181.1 0 [(0, .int 1), (1, .int 0), (2, .int 5)] [] s_M0 _
                      refine s_ek_bk 8 (P := 15) (ls' := [(0, .int 1), (1, .int 0), (2, .int 5)]) (st' := [.int 1]) (M' := s_M0) rfl ?_
                      refine s_ek_ret (o := some (.int 1)) (fun _ => rfl) ?_
                      show s_Ek (s_rows 3 L xs) 1298 s_e281.1 6 [(0, .int 1)] [.int 1] s_M0 _
                      refine s_ek_ret (o := some (.int 1)) (fun _ => rfl) ?_
                      show s_Ek (s_rows 3 L xs) 1299 s_e287.1 4 [(0, .ref 151), (1, .int 1), (2, .int b), (3, .int 5), (4, .int d), (5, .int e)] [.int 1] s_M0 _
                      refine s_ek_bk 2 (P := 8) (ls' := [(0, .ref 151), (1, .int 1), (2, .int b), (3, .int 5), (4, .int d), (5, .int e)]) (st' := [.int 5]) (M' := s_M0) rfl ?_
                      refine s_ek_call (ν := s_e281.1) (P := 11) (as := [.int 5]) (r := []) (fun _ => rfl) rfl ?_
                      show s_Ek (s_rows 3 L xs) 1298 s_e281.1 0 [(0, .int 5)] [] s_M0 _
                      refine s_ek_bk 3 (P := 3) (ls' := [(0, .int 5)]) (st' := [.int 5, .int 0, .int 5]) (M' := s_M0) rfl ?_
                      refine s_ek_call (ν := s_e181.1) (P := 6) (as := [.int 5, .int 0, .int 5]) (r := []) (fun _ => rfl) rfl ?_
                      show s_Ek (s_rows 3 L xs) 1297 s_e181.1 0 [(0, .int 5), (1, .int 0), (2, .int 5)] [] s_M0 _
                      refine s_ek_bk 8 (P := 15) (ls' := [(0, .int 5), (1, .int 0), (2, .int 5)]) (st' := [.int 1]) (M' := s_M0) rfl ?_
                      refine s_ek_ret (o := some (.int 1)) (fun _ => rfl) ?_
                      show s_Ek (s_rows 3 L xs) 1298 s_e281.1 6 [(0, .int 5)] [.int 1] s_M0 _
                      refine s_ek_ret (o := some (.int 1)) (fun _ => rfl) ?_
                      show s_Ek (s_rows 3 L xs) 1299 s_e287.1 11 [(0, .ref 151), (1, .int 1), (2, .int b), (3, .int 5), (4, .int d), (5, .int e)] [.int 1] s_M0 _
                      refine s_ek_bk 8 (P := 38) (ls' := [(0, .ref 151), (1, .int 1), (2, .int b), (3, .int 5), (4, .int d), (5, .int e)]) (st' := [.int (-11)]) (M' := s_M0) rfl ?_
                      refine s_ek_ret (o := some (.int (-11))) (fun _ => rfl) ?_
                      exact rfl
              · refine s_ek_bk 6 (P := 33) (ls' := [(0, .ref 0), (1, .int 2)]) (st' := [.ref 143]) (M' := s_M0) rfl ?_
                refine s_ek_ret (o := some (.ref 143)) (fun _ => rfl) ?_
                show s_Ek (s_rows 3 L xs) 1299 s_e166.1 21 [(0, .ref 0), (1, .int 2), (2, .int b), (3, .int c), (4, .int d), (5, .int e)] [.ref 143] s_M0 _
                refine s_ek_bk 3 (P := 25) (ls' := [(6, .ref 143), (0, .ref 0), (1, .int 2), (2, .int b), (3, .int c), (4, .int d), (5, .int e)]) (st' := [.int c, .ref 0]) (M' := s_M0) rfl ?_
                refine s_ek_call (ν := s_e176.1) (P := 28) (as := [.ref 0, .int c]) (r := []) (fun _ => rfl) rfl ?_
                show s_Ek (s_rows 3 L xs) 1298 s_e176.1 0 [(0, .ref 0), (1, .int c)] [] s_M0 _
                refine s_ek_bk 1 (P := 1) (ls' := [(0, .ref 0), (1, .int c)]) (st' := [.int c]) (M' := s_M0) rfl ?_
                refine s_ek_if1 (T := 22) rfl rfl (fun h7 => ?_) (fun h7 => ?_)
                · replace h7 : c.toInt < 0 := h7
                  omega
                · replace h7 : ¬ (c.toInt < 0) := h7
                  replace h7 : 0 ≤ c.toInt := by omega
                  refine s_ek_bk 4 (P := 10) (ls' := [(0, .ref 0), (1, .int c)]) (st' := [.int 6, .int c]) (M' := s_M0) rfl ?_
                  refine s_ek_if2 (T := 22) rfl rfl (fun h8 => ?_) (fun h8 => ?_)
                  · replace h8 : 6 ≤ c.toInt := h8
                    omega
                  · replace h8 : ¬ (6 ≤ c.toInt) := h8
                    replace h8 : c.toInt < 6 := by omega
                    refine s_ek_bk 3 (P := 18) (ls' := [(0, .ref 0), (1, .int c)]) (st' := [.int c, .ref 135]) (M' := s_M0) rfl ?_
                    rcases s_rg_0_5 (a := c) (by omega) (by omega) with rfl | rfl | rfl | rfl | rfl | rfl
                    · refine s_ek_bk 6 (P := 33) (ls' := [(0, .ref 0), (1, .int 0)]) (st' := [.ref 139]) (M' := s_M0) rfl ?_
                      refine s_ek_ret (o := some (.ref 139)) (fun _ => rfl) ?_
                      show s_Ek (s_rows 3 L xs) 1299 s_e166.1 28 [(6, .ref 143), (0, .ref 0), (1, .int 2), (2, .int b), (3, .int 0), (4, .int d), (5, .int e)] [.ref 139] s_M0 _
                      refine s_ek_bk 2 (P := 32) (ls' := [(7, .ref 139), (6, .ref 143), (0, .ref 0), (1, .int 2), (2, .int b), (3, .int 0), (4, .int d), (5, .int e)]) (st' := [.ref 143]) (M' := s_M0) rfl ?_
                      refine s_ek_call (ν := s_e84.1) (P := 35) (as := [.ref 143]) (r := []) (fun _ => rfl) rfl ?_
                      show s_Ek (s_rows 3 L xs) 1298 s_e84.1 0 [(0, .ref 143)] [] s_M0 _
                      refine s_ek_bk 6 (P := 13) (ls' := [(0, .ref 143)]) (st' := [.int 1]) (M' := s_M0) rfl ?_
                      refine s_ek_ret (o := some (.int 1)) (fun _ => rfl) ?_
                      show s_Ek (s_rows 3 L xs) 1299 s_e166.1 35 [(7, .ref 139), (6, .ref 143), (0, .ref 0), (1, .int 2), (2, .int b), (3, .int 0), (4, .int d), (5, .int e)] [.int 1] s_M0 _
                      refine s_ek_bk 2 (P := 48) (ls' := [(7, .ref 139), (6, .ref 143), (0, .ref 0), (1, .int 2), (2, .int b), (3, .int 0), (4, .int d), (5, .int e)]) (st' := [.int (-11)]) (M' := s_M0) rfl ?_
                      refine s_ek_ret (o := some (.int (-11))) (fun _ => rfl) ?_
                      refine ⟨(-11), rfl, ?_⟩
                      show s_Ek (s_rows 3 L xs) 1299 s_e287.1 0 [(0, .ref 151), (1, .int 2), (2, .int b), (3, .int 0), (4, .int d), (5, .int e)] [] s_M0 _
                      refine s_ek_bk 1 (P := 1) (ls' := [(0, .ref 151), (1, .int 2), (2, .int b), (3, .int 0), (4, .int d), (5, .int e)]) (st' := [.int 2]) (M' := s_M0) rfl ?_
                      refine s_ek_call (ν := s_e281.1) (P := 4) (as := [.int 2]) (r := []) (fun _ => rfl) rfl ?_
                      show s_Ek (s_rows 3 L xs) 1298 s_e281.1 0 [(0, .int 2)] [] s_M0 _
                      refine s_ek_bk 3 (P := 3) (ls' := [(0, .int 2)]) (st' := [.int 5, .int 0, .int 2]) (M' := s_M0) rfl ?_
                      refine s_ek_call (ν := s_e181.1) (P := 6) (as := [.int 2, .int 0, .int 5]) (r := []) (fun _ => rfl) rfl ?_
                      show s_Ek (s_rows 3 L xs) 1297 s_e181.1 0 [(0, .int 2), (1, .int 0), (2, .int 5)] [] s_M0 _
                      refine s_ek_bk 8 (P := 15) (ls' := [(0, .int 2), (1, .int 0), (2, .int 5)]) (st' := [.int 1]) (M' := s_M0) rfl ?_
                      refine s_ek_ret (o := some (.int 1)) (fun _ => rfl) ?_
                      show s_Ek (s_rows 3 L xs) 1298 s_e281.1 6 [(0, .int 2)] [.int 1] s_M0 _
                      refine s_ek_ret (o := some (.int 1)) (fun _ => rfl) ?_
                      show s_Ek (s_rows 3 L xs) 1299 s_e287.1 4 [(0, .ref 151), (1, .int 2), (2, .int b), (3, .int 0), (4, .int d), (5, .int e)] [.int 1] s_M0 _
                      refine s_ek_bk 2 (P := 8) (ls' := [(0, .ref 151), (1, .int 2), (2, .int b), (3, .int 0), (4, .int d), (5, .int e)]) (st' := [.int 0]) (M' := s_M0) rfl ?_
                      refine s_ek_call (ν := s_e281.1) (P := 11) (as := [.int 0]) (r := []) (fun _ => rfl) rfl ?_
                      show s_Ek (s_rows 3 L xs) 1298 s_e281.1 0 [(0, .int 0)] [] s_M0 _
                      refine s_ek_bk 3 (P := 3) (ls' := [(0, .int 0)]) (st' := [.int 5, .int 0, .int 0]) (M' := s_M0) rfl ?_
                      refine s_ek_call (ν := s_e181.1) (P := 6) (as := [.int 0, .int 0, .int 5]) (r := []) (fun _ => rfl) rfl ?_
                      show s_Ek (s_rows 3 L xs) 1297 s_e181.1 0 [(0, .int 0), (1, .int 0), (2, .int 5)] [] s_M0 _
                      refine s_ek_bk 8 (P := 15) (ls' := [(0, .int 0), (1, .int 0), (2, .int 5)]) (st' := [.int 1]) (M' := s_M0) rfl ?_
                      refine s_ek_ret (o := some (.int 1)) (fun _ => rfl) ?_
                      show s_Ek (s_rows 3 L xs) 1298 s_e281.1 6 [(0, .int 0)] [.int 1] s_M0 _
                      refine s_ek_ret (o := some (.int 1)) (fun _ => rfl) ?_
                      show s_Ek (s_rows 3 L xs) 1299 s_e287.1 11 [(0, .ref 151), (1, .int 2), (2, .int b), (3, .int 0), (4, .int d), (5, .int e)] [.int 1] s_M0 _
                      refine s_ek_bk 8 (P := 38) (ls' := [(0, .ref 151), (1, .int 2), (2, .int b), (3, .int 0), (4, .int d), (5, .int e)]) (st' := [.int (-11)]) (M' := s_M0) rfl ?_
                      refine s_ek_ret (o := some (.int (-11))) (fun _ => rfl) ?_
                      exact rfl
                    · refine s_ek_bk 6 (P := 33) (ls' := [(0, .ref 0), (1, .int 1)]) (st' := [.ref 141]) (M' := s_M0) rfl ?_
                      refine s_ek_ret (o := some (.ref 141)) (fun _ => rfl) ?_
                      show s_Ek (s_rows 3 L xs) 1299 s_e166.1 28 [(6, .ref 143), (0, .ref 0), (1, .int 2), (2, .int b), (3, .int 1), (4, .int d), (5, .int e)] [.ref 141] s_M0 _
                      refine s_ek_bk 2 (P := 32) (ls' := [(7, .ref 141), (6, .ref 143), (0, .ref 0), (1, .int 2), (2, .int b), (3, .int 1), (4, .int d), (5, .int e)]) (st' := [.ref 143]) (M' := s_M0) rfl ?_
                      refine s_ek_call (ν := s_e84.1) (P := 35) (as := [.ref 143]) (r := []) (fun _ => rfl) rfl ?_
                      show s_Ek (s_rows 3 L xs) 1298 s_e84.1 0 [(0, .ref 143)] [] s_M0 _
                      refine s_ek_bk 6 (P := 13) (ls' := [(0, .ref 143)]) (st' := [.int 1]) (M' := s_M0) rfl ?_
                      refine s_ek_ret (o := some (.int 1)) (fun _ => rfl) ?_
                      show s_Ek (s_rows 3 L xs) 1299 s_e166.1 35 [(7, .ref 141), (6, .ref 143), (0, .ref 0), (1, .int 2), (2, .int b), (3, .int 1), (4, .int d), (5, .int e)] [.int 1] s_M0 _
                      refine s_ek_bk 2 (P := 48) (ls' := [(7, .ref 141), (6, .ref 143), (0, .ref 0), (1, .int 2), (2, .int b), (3, .int 1), (4, .int d), (5, .int e)]) (st' := [.int (-11)]) (M' := s_M0) rfl ?_
                      refine s_ek_ret (o := some (.int (-11))) (fun _ => rfl) ?_
                      refine ⟨(-11), rfl, ?_⟩
                      show s_Ek (s_rows 3 L xs) 1299 s_e287.1 0 [(0, .ref 151), (1, .int 2), (2, .int b), (3, .int 1), (4, .int d), (5, .int e)] [] s_M0 _
                      refine s_ek_bk 1 (P := 1) (ls' := [(0, .ref 151), (1, .int 2), (2, .int b), (3, .int 1), (4, .int d), (5, .int e)]) (st' := [.int 2]) (M' := s_M0) rfl ?_
                      refine s_ek_call (ν := s_e281.1) (P := 4) (as := [.int 2]) (r := []) (fun _ => rfl) rfl ?_
                      show s_Ek (s_rows 3 L xs) 1298 s_e281.1 0 [(0, .int 2)] [] s_M0 _
                      refine s_ek_bk 3 (P := 3) (ls' := [(0, .int 2)]) (st' := [.int 5, .int 0, .int 2]) (M' := s_M0) rfl ?_
                      refine s_ek_call (ν := s_e181.1) (P := 6) (as := [.int 2, .int 0, .int 5]) (r := []) (fun _ => rfl) rfl ?_
                      show s_Ek (s_rows 3 L xs) 1297 s_e181.1 0 [(0, .int 2), (1, .int 0), (2, .int 5)] [] s_M0 _
                      refine s_ek_bk 8 (P := 15) (ls' := [(0, .int 2), (1, .int 0), (2, .int 5)]) (st' := [.int 1]) (M' := s_M0) rfl ?_
                      refine s_ek_ret (o := some (.int 1)) (fun _ => rfl) ?_
                      show s_Ek (s_rows 3 L xs) 1298 s_e281.1 6 [(0, .int 2)] [.int 1] s_M0 _
                      refine s_ek_ret (o := some (.int 1)) (fun _ => rfl) ?_
                      show s_Ek (s_rows 3 L xs) 1299 s_e287.1 4 [(0, .ref 151), (1, .int 2), (2, .int b), (3, .int 1), (4, .int d), (5, .int e)] [.int 1] s_M0 _
                      refine s_ek_bk 2 (P := 8) (ls' := [(0, .ref 151), (1, .int 2), (2, .int b), (3, .int 1), (4, .int d), (5, .int e)]) (st' := [.int 1]) (M' := s_M0) rfl ?_
                      refine s_ek_call (ν := s_e281.1) (P := 11) (as := [.int 1]) (r := []) (fun _ => rfl) rfl ?_
                      show s_Ek (s_rows 3 L xs) 1298 s_e281.1 0 [(0, .int 1)] [] s_M0 _
                      refine s_ek_bk 3 (P := 3) (ls' := [(0, .int 1)]) (st' := [.int 5, .int 0, .int 1]) (M' := s_M0) rfl ?_
                      refine s_ek_call (ν := s_e181.1) (P := 6) (as := [.int 1, .int 0, .int 5]) (r := []) (fun _ => rfl) rfl ?_
                      show s_Ek (s_rows 3 L xs) 1297 s_e181.1 0 [(0, .int 1), (1, .int 0), (2, .int 5)] [] s_M0 _
                      refine s_ek_bk 8 (P := 15) (ls' := [(0, .int 1), (1, .int 0), (2, .int 5)]) (st' := [.int 1]) (M' := s_M0) rfl ?_
                      refine s_ek_ret (o := some (.int 1)) (fun _ => rfl) ?_
                      show s_Ek (s_rows 3 L xs) 1298 s_e281.1 6 [(0, .int 1)] [.int 1] s_M0 _
                      refine s_ek_ret (o := some (.int 1)) (fun _ => rfl) ?_
                      show s_Ek (s_rows 3 L xs) 1299 s_e287.1 11 [(0, .ref 151), (1, .int 2), (2, .int b), (3, .int 1), (4, .int d), (5, .int e)] [.int 1] s_M0 _
                      refine s_ek_bk 8 (P := 38) (ls' := [(0, .ref 151), (1, .int 2), (2, .int b), (3, .int 1), (4, .int d), (5, .int e)]) (st' := [.int (-11)]) (M' := s_M0) rfl ?_
                      refine s_ek_ret (o := some (.int (-11))) (fun _ => rfl) ?_
                      exact rfl
                    · refine s_ek_bk 6 (P := 33) (ls' := [(0, .ref 0), (1, .int 2)]) (st' := [.ref 143]) (M' := s_M0) rfl ?_
                      refine s_ek_ret (o := some (.ref 143)) (fun _ => rfl) ?_
                      show s_Ek (s_rows 3 L xs) 1299 s_e166.1 28 [(6, .ref 143), (0, .ref 0), (1, .int 2), (2, .int b), (3, .int 2), (4, .int d), (5, .int e)] [.ref 143] s_M0 _
                      refine s_ek_bk 2 (P := 32) (ls' := [(7, .ref 143), (6, .ref 143), (0, .ref 0), (1, .int 2), (2, .int b), (3, .int 2), (4, .int d), (5, .int e)]) (st' := [.ref 143]) (M' := s_M0) rfl ?_
                      refine s_ek_call (ν := s_e84.1) (P := 35) (as := [.ref 143]) (r := []) (fun _ => rfl) rfl ?_
                      show s_Ek (s_rows 3 L xs) 1298 s_e84.1 0 [(0, .ref 143)] [] s_M0 _
                      refine s_ek_bk 6 (P := 13) (ls' := [(0, .ref 143)]) (st' := [.int 1]) (M' := s_M0) rfl ?_
                      refine s_ek_ret (o := some (.int 1)) (fun _ => rfl) ?_
                      show s_Ek (s_rows 3 L xs) 1299 s_e166.1 35 [(7, .ref 143), (6, .ref 143), (0, .ref 0), (1, .int 2), (2, .int b), (3, .int 2), (4, .int d), (5, .int e)] [.int 1] s_M0 _
                      refine s_ek_bk 2 (P := 48) (ls' := [(7, .ref 143), (6, .ref 143), (0, .ref 0), (1, .int 2), (2, .int b), (3, .int 2), (4, .int d), (5, .int e)]) (st' := [.int (-11)]) (M' := s_M0) rfl ?_
                      refine s_ek_ret (o := some (.int (-11))) (fun _ => rfl) ?_
                      refine ⟨(-11), rfl, ?_⟩
                      show s_Ek (s_rows 3 L xs) 1299 s_e287.1 0 [(0, .ref 151), (1, .int 2), (2, .int b), (3, .int 2), (4, .int d), (5, .int e)] [] s_M0 _
                      refine s_ek_bk 1 (P := 1) (ls' := [(0, .ref 151), (1, .int 2), (2, .int b), (3, .int 2), (4, .int d), (5, .int e)]) (st' := [.int 2]) (M' := s_M0) rfl ?_
                      refine s_ek_call (ν := s_e281.1) (P := 4) (as := [.int 2]) (r := []) (fun _ => rfl) rfl ?_
                      show s_Ek (s_rows 3 L xs) 1298 s_e281.1 0 [(0, .int 2)] [] s_M0 _
                      refine s_ek_bk 3 (P := 3) (ls' := [(0, .int 2)]) (st' := [.int 5, .int 0, .int 2]) (M' := s_M0) rfl ?_
                      refine s_ek_call (ν := s_e181.1) (P := 6) (as := [.int 2, .int 0, .int 5]) (r := []) (fun _ => rfl) rfl ?_
                      show s_Ek (s_rows 3 L xs) 1297 s_e181.1 0 [(0, .int 2), (1, .int 0), (2, .int 5)] [] s_M0 _
                      refine s_ek_bk 8 (P := 15) (ls' := [(0, .int 2), (1, .int 0), (2, .int 5)]) (st' := [.int 1]) (M' := s_M0) rfl ?_
                      refine s_ek_ret (o := some (.int 1)) (fun _ => rfl) ?_
                      show s_Ek (s_rows 3 L xs) 1298 s_e281.1 6 [(0, .int 2)] [.int 1] s_M0 _
                      refine s_ek_ret (o := some (.int 1)) (fun _ => rfl) ?_
                      show s_Ek (s_rows 3 L xs) 1299 s_e287.1 4 [(0, .ref 151), (1, .int 2), (2, .int b), (3, .int 2), (4, .int d), (5, .int e)] [.int 1] s_M0 _
                      refine s_ek_bk 2 (P := 8) (ls' := [(0, .ref 151), (1, .int 2), (2, .int b), (3, .int 2), (4, .int d), (5, .int e)]) (st' := [.int 2]) (M' := s_M0) rfl ?_
                      refine s_ek_call (ν := s_e281.1) (P := 11) (as := [.int 2]) (r := []) (fun _ => rfl) rfl ?_
                      show s_Ek (s_rows 3 L xs) 1298 s_e281.1 0 [(0, .int 2)] [] s_M0 _
                      refine s_ek_bk 3 (P := 3) (ls' := [(0, .int 2)]) (st' := [.int 5, .int 0, .int 2]) (M' := s_M0) rfl ?_
                      refine s_ek_call (ν := s_e181.1) (P := 6) (as := [.int 2, .int 0, .int 5]) (r := []) (fun _ => rfl) rfl ?_
                      show s_Ek (s_rows 3 L xs) 1297 s_e181.1 0 [(0, .int 2), (1, .int 0), (2, .int 5)] [] s_M0 _
                      refine s_ek_bk 8 (P := 15) (ls' := [(0, .int 2), (1, .int 0), (2, .int 5)]) (st' := [.int 1]) (M' := s_M0) rfl ?_
                      refine s_ek_ret (o := some (.int 1)) (fun _ => rfl) ?_
                      show s_Ek (s_rows 3 L xs) 1298 s_e281.1 6 [(0, .int 2)] [.int 1] s_M0 _
                      refine s_ek_ret (o := some (.int 1)) (fun _ => rfl) ?_
                      show s_Ek (s_rows 3 L xs) 1299 s_e287.1 11 [(0, .ref 151), (1, .int 2), (2, .int b), (3, .int 2), (4, .int d), (5, .int e)] [.int 1] s_M0 _
                      refine s_ek_bk 8 (P := 38) (ls' := [(0, .ref 151), (1, .int 2), (2, .int b), (3, .int 2), (4, .int d), (5, .int e)]) (st' := [.int (-11)]) (M' := s_M0) rfl ?_
                      refine s_ek_ret (o := some (.int (-11))) (fun _ => rfl) ?_
                      exact rfl
                    · refine s_ek_bk 6 (P := 33) (ls' := [(0, .ref 0), (1, .int 3)]) (st' := [.ref 145]) (M' := s_M0) rfl ?_
                      refine s_ek_ret (o := some (.ref 145)) (fun _ => rfl) ?_
                      show s_Ek (s_rows 3 L xs) 1299 s_e166.1 28 [(6, .ref 143), (0, .ref 0), (1, .int 2), (2, .int b), (3, .int 3), (4, .int d), (5, .int e)] [.ref 145] s_M0 _
                      refine s_ek_bk 2 (P := 32) (ls' := [(7, .ref 145), (6, .ref 143), (0, .ref 0), (1, .int 2), (2, .int b), (3, .int 3), (4, .int d), (5, .int e)]) (st' := [.ref 143]) (M' := s_M0) rfl ?_
                      refine s_ek_call (ν := s_e84.1) (P := 35) (as := [.ref 143]) (r := []) (fun _ => rfl) rfl ?_
                      show s_Ek (s_rows 3 L xs) 1298 s_e84.1 0 [(0, .ref 143)] [] s_M0 _
                      refine s_ek_bk 6 (P := 13) (ls' := [(0, .ref 143)]) (st' := [.int 1]) (M' := s_M0) rfl ?_
                      refine s_ek_ret (o := some (.int 1)) (fun _ => rfl) ?_
                      show s_Ek (s_rows 3 L xs) 1299 s_e166.1 35 [(7, .ref 145), (6, .ref 143), (0, .ref 0), (1, .int 2), (2, .int b), (3, .int 3), (4, .int d), (5, .int e)] [.int 1] s_M0 _
                      refine s_ek_bk 2 (P := 48) (ls' := [(7, .ref 145), (6, .ref 143), (0, .ref 0), (1, .int 2), (2, .int b), (3, .int 3), (4, .int d), (5, .int e)]) (st' := [.int (-11)]) (M' := s_M0) rfl ?_
                      refine s_ek_ret (o := some (.int (-11))) (fun _ => rfl) ?_
                      refine ⟨(-11), rfl, ?_⟩
                      show s_Ek (s_rows 3 L xs) 1299 s_e287.1 0 [(0, .ref 151), (1, .int 2), (2, .int b), (3, .int 3), (4, .int d), (5, .int e)] [] s_M0 _
                      refine s_ek_bk 1 (P := 1) (ls' := [(0, .ref 151), (1, .int 2), (2, .int b), (3, .int 3), (4, .int d), (5, .int e)]) (st' := [.int 2]) (M' := s_M0) rfl ?_
                      refine s_ek_call (ν := s_e281.1) (P := 4) (as := [.int 2]) (r := []) (fun _ => rfl) rfl ?_
                      show s_Ek (s_rows 3 L xs) 1298 s_e281.1 0 [(0, .int 2)] [] s_M0 _
                      refine s_ek_bk 3 (P := 3) (ls' := [(0, .int 2)]) (st' := [.int 5, .int 0, .int 2]) (M' := s_M0) rfl ?_
                      refine s_ek_call (ν := s_e181.1) (P := 6) (as := [.int 2, .int 0, .int 5]) (r := []) (fun _ => rfl) rfl ?_
                      show s_Ek (s_rows 3 L xs) 1297 s_e181.1 0 [(0, .int 2), (1, .int 0), (2, .int 5)] [] s_M0 _
                      refine s_ek_bk 8 (P := 15) (ls' := [(0, .int 2), (1, .int 0), (2, .int 5)]) (st' := [.int 1]) (M' := s_M0) rfl ?_
                      refine s_ek_ret (o := some (.int 1)) (fun _ => rfl) ?_
                      show s_Ek (s_rows 3 L xs) 1298 s_e281.1 6 [(0, .int 2)] [.int 1] s_M0 _
                      refine s_ek_ret (o := some (.int 1)) (fun _ => rfl) ?_
                      show s_Ek (s_rows 3 L xs) 1299 s_e287.1 4 [(0, .ref 151), (1, .int 2), (2, .int b), (3, .int 3), (4, .int d), (5, .int e)] [.int 1] s_M0 _
                      refine s_ek_bk 2 (P := 8) (ls' := [(0, .ref 151), (1, .int 2), (2, .int b), (3, .int 3), (4, .int d), (5, .int e)]) (st' := [.int 3]) (M' := s_M0) rfl ?_
                      refine s_ek_call (ν := s_e281.1) (P := 11) (as := [.int 3]) (r := []) (fun _ => rfl) rfl ?_
                      show s_Ek (s_rows 3 L xs) 1298 s_e281.1 0 [(0, .int 3)] [] s_M0 _
                      refine s_ek_bk 3 (P := 3) (ls' := [(0, .int 3)]) (st' := [.int 5, .int 0, .int 3]) (M' := s_M0) rfl ?_
                      refine s_ek_call (ν := s_e181.1) (P := 6) (as := [.int 3, .int 0, .int 5]) (r := []) (fun _ => rfl) rfl ?_
                      show s_Ek (s_rows 3 L xs) 1297 s_e181.1 0 [(0, .int 3), (1, .int 0), (2, .int 5)] [] s_M0 _
                      refine s_ek_bk 8 (P := 15) (ls' := [(0, .int 3), (1, .int 0), (2, .int 5)]) (st' := [.int 1]) (M' := s_M0) rfl ?_
                      refine s_ek_ret (o := some (.int 1)) (fun _ => rfl) ?_
                      show s_Ek (s_rows 3 L xs) 1298 s_e281.1 6 [(0, .int 3)] [.int 1] s_M0 _
                      refine s_ek_ret (o := some (.int 1)) (fun _ => rfl) ?_
                      show s_Ek (s_rows 3 L xs) 1299 s_e287.1 11 [(0, .ref 151), (1, .int 2), (2, .int b), (3, .int 3), (4, .int d), (5, .int e)] [.int 1] s_M0 _
                      refine s_ek_bk 8 (P := 38) (ls' := [(0, .ref 151), (1, .int 2), (2, .int b), (3, .int 3), (4, .int d), (5, .int e)]) (st' := [.int (-11)]) (M' := s_M0) rfl ?_
                      refine s_ek_ret (o := some (.int (-11))) (fun _ => rfl) ?_
                      exact rfl
                    · refine s_ek_bk 6 (P := 33) (ls' := [(0, .ref 0), (1, .int 4)]) (st' := [.ref 147]) (M' := s_M0) rfl ?_
                      refine s_ek_ret (o := some (.ref 147)) (fun _ => rfl) ?_
                      show s_Ek (s_rows 3 L xs) 1299 s_e166.1 28 [(6, .ref 143), (0, .ref 0), (1, .int 2), (2, .int b), (3, .int 4), (4, .int d), (5, .int e)] [.ref 147] s_M0 _
                      refine s_ek_bk 2 (P := 32) (ls' := [(7, .ref 147), (6, .ref 143), (0, .ref 0), (1, .int 2), (2, .int b), (3, .int 4), (4, .int d), (5, .int e)]) (st' := [.ref 143]) (M' := s_M0) rfl ?_
                      refine s_ek_call (ν := s_e84.1) (P := 35) (as := [.ref 143]) (r := []) (fun _ => rfl) rfl ?_
                      show s_Ek (s_rows 3 L xs) 1298 s_e84.1 0 [(0, .ref 143)] [] s_M0 _
                      refine s_ek_bk 6 (P := 13) (ls' := [(0, .ref 143)]) (st' := [.int 1]) (M' := s_M0) rfl ?_
                      refine s_ek_ret (o := some (.int 1)) (fun _ => rfl) ?_
                      show s_Ek (s_rows 3 L xs) 1299 s_e166.1 35 [(7, .ref 147), (6, .ref 143), (0, .ref 0), (1, .int 2), (2, .int b), (3, .int 4), (4, .int d), (5, .int e)] [.int 1] s_M0 _
                      refine s_ek_bk 2 (P := 48) (ls' := [(7, .ref 147), (6, .ref 143), (0, .ref 0), (1, .int 2), (2, .int b), (3, .int 4), (4, .int d), (5, .int e)]) (st' := [.int (-11)]) (M' := s_M0) rfl ?_
                      refine s_ek_ret (o := some (.int (-11))) (fun _ => rfl) ?_
                      refine ⟨(-11), rfl, ?_⟩
                      show s_Ek (s_rows 3 L xs) 1299 s_e287.1 0 [(0, .ref 151), (1, .int 2), (2, .int b), (3, .int 4), (4, .int d), (5, .int e)] [] s_M0 _
                      refine s_ek_bk 1 (P := 1) (ls' := [(0, .ref 151), (1, .int 2), (2, .int b), (3, .int 4), (4, .int d), (5, .int e)]) (st' := [.int 2]) (M' := s_M0) rfl ?_
                      refine s_ek_call (ν := s_e281.1) (P := 4) (as := [.int 2]) (r := []) (fun _ => rfl) rfl ?_
                      show s_Ek (s_rows 3 L xs) 1298 s_e281.1 0 [(0, .int 2)] [] s_M0 _
                      refine s_ek_bk 3 (P := 3) (ls' := [(0, .int 2)]) (st' := [.int 5, .int 0, .int 2]) (M' := s_M0) rfl ?_
                      refine s_ek_call (ν := s_e181.1) (P := 6) (as := [.int 2, .int 0, .int 5]) (r := []) (fun _ => rfl) rfl ?_
                      show s_Ek (s_rows 3 L xs) 1297 s_e181.1 0 [(0, .int 2), (1, .int 0), (2, .int 5)] [] s_M0 _
                      refine s_ek_bk 8 (P := 15) (ls' := [(0, .int 2), (1, .int 0), (2, .int 5)]) (st' := [.int 1]) (M' := s_M0) rfl ?_
                      refine s_ek_ret (o := some (.int 1)) (fun _ => rfl) ?_
                      show s_Ek (s_rows 3 L xs) 1298 s_e281.1 6 [(0, .int 2)] [.int 1] s_M0 _
                      refine s_ek_ret (o := some (.int 1)) (fun _ => rfl) ?_
                      show s_Ek (s_rows 3 L xs) 1299 s_e287.1 4 [(0, .ref 151), (1, .int 2), (2, .int b), (3, .int 4), (4, .int d), (5, .int e)] [.int 1] s_M0 _
                      refine s_ek_bk 2 (P := 8) (ls' := [(0, .ref 151), (1, .int 2), (2, .int b), (3, .int 4), (4, .int d), (5, .int e)]) (st' := [.int 4]) (M' := s_M0) rfl ?_
                      refine s_ek_call (ν := s_e281.1) (P := 11) (as := [.int 4]) (r := []) (fun _ => rfl) rfl ?_
                      show s_Ek (s_rows 3 L xs) 1298 s_e281.1 0 [(0, .int 4)] [] s_M0 _
                      refine s_ek_bk 3 (P := 3) (ls' := [(0, .int 4)]) (st' := [.int 5, .int 0, .int 4]) (M' := s_M0) rfl ?_
                      refine s_ek_call (ν := s_e181.1) (P := 6) (as := [.int 4, .int 0, .int 5]) (r := []) (fun _ => rfl) rfl ?_
                      show s_Ek (s_rows 3 L xs) 1297 s_e181.1 0 [(0, .int 4), (1, .int 0), (2, .int 5)] [] s_M0 _
                      refine s_ek_bk 8 (P := 15) (ls' := [(0, .int 4), (1, .int 0), (2, .int 5)]) (st' := [.int 1]) (M' := s_M0) rfl ?_
                      refine s_ek_ret (o := some (.int 1)) (fun _ => rfl) ?_
                      show s_Ek (s_rows 3 L xs) 1298 s_e281.1 6 [(0, .int 4)] [.int 1] s_M0 _
                      refine s_ek_ret (o := some (.int 1)) (fun _ => rfl) ?_
                      show s_Ek (s_rows 3 L xs) 1299 s_e287.1 11 [(0, .ref 151), (1, .int 2), (2, .int b), (3, .int 4), (4, .int d), (5, .int e)] [.int 1] s_M0 _
                      refine s_ek_bk 8 (P := 38) (ls' := [(0, .ref 151), (1, .int 2), (2, .int b), (3, .int 4), (4, .int d), (5, .int e)]) (st' := [.int (-11)]) (M' := s_M0) rfl ?_
                      refine s_ek_ret (o := some (.int (-11))) (fun _ => rfl) ?_
                      exact rfl
                    · refine s_ek_bk 6 (P := 33) (ls' := [(0, .ref 0), (1, .int 5)]) (st' := [.ref 149]) (M' := s_M0) rfl ?_
                      refine s_ek_ret (o := some (.ref 149)) (fun _ => rfl) ?_
                      show s_Ek (s_rows 3 L xs) 1299 s_e166.1 28 [(6, .ref 143), (0, .ref 0), (1, .int 2), (2, .int b), (3, .int 5), (4, .int d), (5, .int e)] [.ref 149] s_M0 _
                      refine s_ek_bk 2 (P := 32) (ls' := [(7, .ref 149), (6, .ref 143), (0, .ref 0), (1, .int 2), (2, .int b), (3, .int 5), (4, .int d), (5, .int e)]) (st' := [.ref 143]) (M' := s_M0) rfl ?_
                      refine s_ek_call (ν := s_e84.1) (P := 35) (as := [.ref 143]) (r := []) (fun _ => rfl) rfl ?_
                      show s_Ek (s_rows 3 L xs) 1298 s_e84.1 0 [(0, .ref 143)] [] s_M0 _
                      refine s_ek_bk 6 (P := 13) (ls' := [(0, .ref 143)]) (st' := [.int 1]) (M' := s_M0) rfl ?_
                      refine s_ek_ret (o := some (.int 1)) (fun _ => rfl) ?_
                      show s_Ek (s_rows 3 L xs) 1299 s_e166.1 35 [(7, .ref 149), (6, .ref 143), (0, .ref 0), (1, .int 2), (2, .int b), (3, .int 5), (4, .int d), (5, .int e)] [.int 1] s_M0 _
                      refine s_ek_bk 2 (P := 48) (ls' := [(7, .ref 149), (6, .ref 143), (0, .ref 0), (1, .int 2), (2, .int b), (3, .int 5), (4, .int d), (5, .int e)]) (st' := [.int (-11)]) (M' := s_M0) rfl ?_
                      refine s_ek_ret (o := some (.int (-11))) (fun _ => rfl) ?_
                      refine ⟨(-11), rfl, ?_⟩
                      show s_Ek (s_rows 3 L xs) 1299 s_e287.1 0 [(0, .ref 151), (1, .int 2), (2, .int b), (3, .int 5), (4, .int d), (5, .int e)] [] s_M0 _
                      refine s_ek_bk 1 (P := 1) (ls' := [(0, .ref 151), (1, .int 2), (2, .int b), (3, .int 5), (4, .int d), (5, .int e)]) (st' := [.int 2]) (M' := s_M0) rfl ?_
                      refine s_ek_call (ν := s_e281.1) (P := 4) (as := [.int 2]) (r := []) (fun _ => rfl) rfl ?_
                      show s_Ek (s_rows 3 L xs) 1298 s_e281.1 0 [(0, .int 2)] [] s_M0 _
                      refine s_ek_bk 3 (P := 3) (ls' := [(0, .int 2)]) (st' := [.int 5, .int 0, .int 2]) (M' := s_M0) rfl ?_
                      refine s_ek_call (ν := s_e181.1) (P := 6) (as := [.int 2, .int 0, .int 5]) (r := []) (fun _ => rfl) rfl ?_
                      show s_Ek (s_rows 3 L xs) 1297 s_e181.1 0 [(0, .int 2), (1, .int 0), (2, .int 5)] [] s_M0 _
                      refine s_ek_bk 8 (P := 15) (ls' := [(0, .int 2), (1, .int 0), (2, .int 5)]) (st' := [.int 1]) (M' := s_M0) rfl ?_
                      refine s_ek_ret (o := some (.int 1)) (fun _ => rfl) ?_
                      show s_Ek (s_rows 3 L xs) 1298 s_e281.1 6 [(0, .int 2)] [.int 1] s_M0 _
                      refine s_ek_ret (o := some (.int 1)) (fun _ => rfl) ?_
                      show s_Ek (s_rows 3 L xs) 1299 s_e287.1 4 [(0, .ref 151), (1, .int 2), (2, .int b), (3, .int 5), (4, .int d), (5, .int e)] [.int 1] s_M0 _
                      refine s_ek_bk 2 (P := 8) (ls' := [(0, .ref 151), (1, .int 2), (2, .int b), (3, .int 5), (4, .int d), (5, .int e)]) (st' := [.int 5]) (M' := s_M0) rfl ?_
                      refine s_ek_call (ν := s_e281.1) (P := 11) (as := [.int 5]) (r := []) (fun _ => rfl) rfl ?_
                      show s_Ek (s_rows 3 L xs) 1298 s_e281.1 0 [(0, .int 5)] [] s_M0 _
                      refine s_ek_bk 3 (P := 3) (ls' := [(0, .int 5)]) (st' := [.int 5, .int 0, .int 5]) (M' := s_M0) rfl ?_
                      refine s_ek_call (ν := s_e181.1) (P := 6) (as := [.int 5, .int 0, .int 5]) (r := []) (fun _ => rfl) rfl ?_
                      show s_Ek (s_rows 3 L xs) 1297 s_e181.1 0 [(0, .int 5), (1, .int 0), (2, .int 5)] [] s_M0 _
                      refine s_ek_bk 8 (P := 15) (ls' := [(0, .int 5), (1, .int 0), (2, .int 5)]) (st' := [.int 1]) (M' := s_M0) rfl ?_
                      refine s_ek_ret (o := some (.int 1)) (fun _ => rfl) ?_
                      show s_Ek (s_rows 3 L xs) 1298 s_e281.1 6 [(0, .int 5)] [.int 1] s_M0 _
                      refine s_ek_ret (o := some (.int 1)) (fun _ => rfl) ?_
                      show s_Ek (s_rows 3 L xs) 1299 s_e287.1 11 [(0, .ref 151), (1, .int 2), (2, .int b), (3, .int 5), (4, .int d), (5, .int e)] [.int 1] s_M0 _
                      refine s_ek_bk 8 (P := 38) (ls' := [(0, .ref 151), (1, .int 2), (2, .int b), (3, .int 5), (4, .int d), (5, .int e)]) (st' := [.int (-11)]) (M' := s_M0) rfl ?_
                      refine s_ek_ret (o := some (.int (-11))) (fun _ => rfl) ?_
                      exact rfl
              · refine s_ek_bk 6 (P := 33) (ls' := [(0, .ref 0), (1, .int 3)]) (st' := [.ref 145]) (M' := s_M0) rfl ?_
                refine s_ek_ret (o := some (.ref 145)) (fun _ => rfl) ?_
                show s_Ek (s_rows 3 L xs) 1299 s_e166.1 21 [(0, .ref 0), (1, .int 3), (2, .int b), (3, .int c), (4, .int d), (5, .int e)] [.ref 145] s_M0 _
                refine s_ek_bk 3 (P := 25) (ls' := [(6, .ref 145), (0, .ref 0), (1, .int 3), (2, .int b), (3, .int c), (4, .int d), (5, .int e)]) (st' := [.int c, .ref 0]) (M' := s_M0) rfl ?_
                refine s_ek_call (ν := s_e176.1) (P := 28) (as := [.ref 0, .int c]) (r := []) (fun _ => rfl) rfl ?_
                show s_Ek (s_rows 3 L xs) 1298 s_e176.1 0 [(0, .ref 0), (1, .int c)] [] s_M0 _
                refine s_ek_bk 1 (P := 1) (ls' := [(0, .ref 0), (1, .int c)]) (st' := [.int c]) (M' := s_M0) rfl ?_
                refine s_ek_if1 (T := 22) rfl rfl (fun h7 => ?_) (fun h7 => ?_)
                · replace h7 : c.toInt < 0 := h7
                  omega
                · replace h7 : ¬ (c.toInt < 0) := h7
                  replace h7 : 0 ≤ c.toInt := by omega
                  refine s_ek_bk 4 (P := 10) (ls' := [(0, .ref 0), (1, .int c)]) (st' := [.int 6, .int c]) (M' := s_M0) rfl ?_
                  refine s_ek_if2 (T := 22) rfl rfl (fun h8 => ?_) (fun h8 => ?_)
                  · replace h8 : 6 ≤ c.toInt := h8
                    omega
                  · replace h8 : ¬ (6 ≤ c.toInt) := h8
                    replace h8 : c.toInt < 6 := by omega
                    refine s_ek_bk 3 (P := 18) (ls' := [(0, .ref 0), (1, .int c)]) (st' := [.int c, .ref 135]) (M' := s_M0) rfl ?_
                    rcases s_rg_0_5 (a := c) (by omega) (by omega) with rfl | rfl | rfl | rfl | rfl | rfl
                    · refine s_ek_bk 6 (P := 33) (ls' := [(0, .ref 0), (1, .int 0)]) (st' := [.ref 139]) (M' := s_M0) rfl ?_
                      refine s_ek_ret (o := some (.ref 139)) (fun _ => rfl) ?_
                      show s_Ek (s_rows 3 L xs) 1299 s_e166.1 28 [(6, .ref 145), (0, .ref 0), (1, .int 3), (2, .int b), (3, .int 0), (4, .int d), (5, .int e)] [.ref 139] s_M0 _
                      refine s_ek_bk 2 (P := 32) (ls' := [(7, .ref 139), (6, .ref 145), (0, .ref 0), (1, .int 3), (2, .int b), (3, .int 0), (4, .int d), (5, .int e)]) (st' := [.ref 145]) (M' := s_M0) rfl ?_
                      refine s_ek_call (ν := s_e84.1) (P := 35) (as := [.ref 145]) (r := []) (fun _ => rfl) rfl ?_
                      show s_Ek (s_rows 3 L xs) 1298 s_e84.1 0 [(0, .ref 145)] [] s_M0 _
                      refine s_ek_bk 6 (P := 13) (ls' := [(0, .ref 145)]) (st' := [.int 1]) (M' := s_M0) rfl ?_
                      refine s_ek_ret (o := some (.int 1)) (fun _ => rfl) ?_
                      show s_Ek (s_rows 3 L xs) 1299 s_e166.1 35 [(7, .ref 139), (6, .ref 145), (0, .ref 0), (1, .int 3), (2, .int b), (3, .int 0), (4, .int d), (5, .int e)] [.int 1] s_M0 _
                      refine s_ek_bk 2 (P := 48) (ls' := [(7, .ref 139), (6, .ref 145), (0, .ref 0), (1, .int 3), (2, .int b), (3, .int 0), (4, .int d), (5, .int e)]) (st' := [.int (-11)]) (M' := s_M0) rfl ?_
                      refine s_ek_ret (o := some (.int (-11))) (fun _ => rfl) ?_
                      refine ⟨(-11), rfl, ?_⟩
                      show s_Ek (s_rows 3 L xs) 1299 s_e287.1 0 [(0, .ref 151), (1, .int 3), (2, .int b), (3, .int 0), (4, .int d), (5, .int e)] [] s_M0 _
                      refine s_ek_bk 1 (P := 1) (ls' := [(0, .ref 151), (1, .int 3), (2, .int b), (3, .int 0), (4, .int d), (5, .int e)]) (st' := [.int 3]) (M' := s_M0) rfl ?_
                      refine s_ek_call (ν := s_e281.1) (P := 4) (as := [.int 3]) (r := []) (fun _ => rfl) rfl ?_
                      show s_Ek (s_rows 3 L xs) 1298 s_e281.1 0 [(0, .int 3)] [] s_M0 _
                      refine s_ek_bk 3 (P := 3) (ls' := [(0, .int 3)]) (st' := [.int 5, .int 0, .int 3]) (M' := s_M0) rfl ?_
                      refine s_ek_call (ν := s_e181.1) (P := 6) (as := [.int 3, .int 0, .int 5]) (r := []) (fun _ => rfl) rfl ?_
                      show s_Ek (s_rows 3 L xs) 1297 s_e181.1 0 [(0, .int 3), (1, .int 0), (2, .int 5)] [] s_M0 _
                      refine s_ek_bk 8 (P := 15) (ls' := [(0, .int 3), (1, .int 0), (2, .int 5)]) (st' := [.int 1]) (M' := s_M0) rfl ?_
                      refine s_ek_ret (o := some (.int 1)) (fun _ => rfl) ?_
                      show s_Ek (s_rows 3 L xs) 1298 s_e281.1 6 [(0, .int 3)] [.int 1] s_M0 _
                      refine s_ek_ret (o := some (.int 1)) (fun _ => rfl) ?_
                      show s_Ek (s_rows 3 L xs) 1299 s_e287.1 4 [(0, .ref 151), (1, .int 3), (2, .int b), (3, .int 0), (4, .int d), (5, .int e)] [.int 1] s_M0 _
                      refine s_ek_bk 2 (P := 8) (ls' := [(0, .ref 151), (1, .int 3), (2, .int b), (3, .int 0), (4, .int d), (5, .int e)]) (st' := [.int 0]) (M' := s_M0) rfl ?_
                      refine s_ek_call (ν := s_e281.1) (P := 11) (as := [.int 0]) (r := []) (fun _ => rfl) rfl ?_
                      show s_Ek (s_rows 3 L xs) 1298 s_e281.1 0 [(0, .int 0)] [] s_M0 _
                      refine s_ek_bk 3 (P := 3) (ls' := [(0, .int 0)]) (st' := [.int 5, .int 0, .int 0]) (M' := s_M0) rfl ?_
                      refine s_ek_call (ν := s_e181.1) (P := 6) (as := [.int 0, .int 0, .int 5]) (r := []) (fun _ => rfl) rfl ?_
                      show s_Ek (s_rows 3 L xs) 1297 s_e181.1 0 [(0, .int 0), (1, .int 0), (2, .int 5)] [] s_M0 _
                      refine s_ek_bk 8 (P := 15) (ls' := [(0, .int 0), (1, .int 0), (2, .int 5)]) (st' := [.int 1]) (M' := s_M0) rfl ?_
                      refine s_ek_ret (o := some (.int 1)) (fun _ => rfl) ?_
                      show s_Ek (s_rows 3 L xs) 1298 s_e281.1 6 [(0, .int 0)] [.int 1] s_M0 _
                      refine s_ek_ret (o := some (.int 1)) (fun _ => rfl) ?_
                      show s_Ek (s_rows 3 L xs) 1299 s_e287.1 11 [(0, .ref 151), (1, .int 3), (2, .int b), (3, .int 0), (4, .int d), (5, .int e)] [.int 1] s_M0 _
                      refine s_ek_bk 8 (P := 38) (ls' := [(0, .ref 151), (1, .int 3), (2, .int b), (3, .int 0), (4, .int d), (5, .int e)]) (st' := [.int (-11)]) (M' := s_M0) rfl ?_
                      refine s_ek_ret (o := some (.int (-11))) (fun _ => rfl) ?_
                      exact rfl
                    · refine s_ek_bk 6 (P := 33) (ls' := [(0, .ref 0), (1, .int 1)]) (st' := [.ref 141]) (M' := s_M0) rfl ?_
                      refine s_ek_ret (o := some (.ref 141)) (fun _ => rfl) ?_
                      show s_Ek (s_rows 3 L xs) 1299 s_e166.1 28 [(6, .ref 145), (0, .ref 0), (1, .int 3), (2, .int b), (3, .int 1), (4, .int d), (5, .int e)] [.ref 141] s_M0 _
                      refine s_ek_bk 2 (P := 32) (ls' := [(7, .ref 141), (6, .ref 145), (0, .ref 0), (1, .int 3), (2, .int b), (3, .int 1), (4, .int d), (5, .int e)]) (st' := [.ref 145]) (M' := s_M0) rfl ?_
                      refine s_ek_call (ν := s_e84.1) (P := 35) (as := [.ref 145]) (r := []) (fun _ => rfl) rfl ?_
                      show s_Ek (s_rows 3 L xs) 1298 s_e84.1 0 [(0, .ref 145)] [] s_M0 _
                      refine s_ek_bk 6 (P := 13) (ls' := [(0, .ref 145)]) (st' := [.int 1]) (M' := s_M0) rfl ?_
                      refine s_ek_ret (o := some (.int 1)) (fun _ => rfl) ?_
                      show s_Ek (s_rows 3 L xs) 1299 s_e166.1 35 [(7, .ref 141), (6, .ref 145), (0, .ref 0), (1, .int 3), (2, .int b), (3, .int 1), (4, .int d), (5, .int e)] [.int 1] s_M0 _
                      refine s_ek_bk 2 (P := 48) (ls' := [(7, .ref 141), (6, .ref 145), (0, .ref 0), (1, .int 3), (2, .int b), (3, .int 1), (4, .int d), (5, .int e)]) (st' := [.int (-11)]) (M' := s_M0) rfl ?_
                      refine s_ek_ret (o := some (.int (-11))) (fun _ => rfl) ?_
                      refine ⟨(-11), rfl, ?_⟩
                      show s_Ek (s_rows 3 L xs) 1299 s_e287.1 0 [(0, .ref 151), (1, .int 3), (2, .int b), (3, .int 1), (4, .int d), (5, .int e)] [] s_M0 _
                      refine s_ek_bk 1 (P := 1) (ls' := [(0, .ref 151), (1, .int 3), (2, .int b), (3, .int 1), (4, .int d), (5, .int e)]) (st' := [.int 3]) (M' := s_M0) rfl ?_
                      refine s_ek_call (ν := s_e281.1) (P := 4) (as := [.int 3]) (r := []) (fun _ => rfl) rfl ?_
                      show s_Ek (s_rows 3 L xs) 1298 s_e281.1 0 [(0, .int 3)] [] s_M0 _
                      refine s_ek_bk 3 (P := 3) (ls' := [(0, .int 3)]) (st' := [.int 5, .int 0, .int 3]) (M' := s_M0) rfl ?_
                      refine s_ek_call (ν := s_e181.1) (P := 6) (as := [.int 3, .int 0, .int 5]) (r := []) (fun _ => rfl) rfl ?_
                      show s_Ek (s_rows 3 L xs) 1297 s_e181.1 0 [(0, .int 3), (1, .int 0), (2, .int 5)] [] s_M0 _
                      refine s_ek_bk 8 (P := 15) (ls' := [(0, .int 3), (1, .int 0), (2, .int 5)]) (st' := [.int 1]) (M' := s_M0) rfl ?_
                      refine s_ek_ret (o := some (.int 1)) (fun _ => rfl) ?_
                      show s_Ek (s_rows 3 L xs) 1298 s_e281.1 6 [(0, .int 3)] [.int 1] s_M0 _
                      refine s_ek_ret (o := some (.int 1)) (fun _ => rfl) ?_
                      show s_Ek (s_rows 3 L xs) 1299 s_e287.1 4 [(0, .ref 151), (1, .int 3), (2, .int b), (3, .int 1), (4, .int d), (5, .int e)] [.int 1] s_M0 _
                      refine s_ek_bk 2 (P := 8) (ls' := [(0, .ref 151), (1, .int 3), (2, .int b), (3, .int 1), (4, .int d), (5, .int e)]) (st' := [.int 1]) (M' := s_M0) rfl ?_
                      refine s_ek_call (ν := s_e281.1) (P := 11) (as := [.int 1]) (r := []) (fun _ => rfl) rfl ?_
                      show s_Ek (s_rows 3 L xs) 1298 s_e281.1 0 [(0, .int 1)] [] s_M0 _
                      refine s_ek_bk 3 (P := 3) (ls' := [(0, .int 1)]) (st' := [.int 5, .int 0, .int 1]) (M' := s_M0) rfl ?_
                      refine s_ek_call (ν := s_e181.1) (P := 6) (as := [.int 1, .int 0, .int 5]) (r := []) (fun _ => rfl) rfl ?_
                      show s_Ek (s_rows 3 L xs) 1297 s_e181.1 0 [(0, .int 1), (1, .int 0), (2, .int 5)] [] s_M0 _
                      refine s_ek_bk 8 (P := 15) (ls' := [(0, .int 1), (1, .int 0), (2, .int 5)]) (st' := [.int 1]) (M' := s_M0) rfl ?_
                      refine s_ek_ret (o := some (.int 1)) (fun _ => rfl) ?_
                      show s_Ek (s_rows 3 L xs) 1298 s_e281.1 6 [(0, .int 1)] [.int 1] s_M0 _
                      refine s_ek_ret (o := some (.int 1)) (fun _ => rfl) ?_
                      show s_Ek (s_rows 3 L xs) 1299 s_e287.1 11 [(0, .ref 151), (1, .int 3), (2, .int b), (3, .int 1), (4, .int d), (5, .int e)] [.int 1] s_M0 _
                      refine s_ek_bk 8 (P := 38) (ls' := [(0, .ref 151), (1, .int 3), (2, .int b), (3, .int 1), (4, .int d), (5, .int e)]) (st' := [.int (-11)]) (M' := s_M0) rfl ?_
                      refine s_ek_ret (o := some (.int (-11))) (fun _ => rfl) ?_
                      exact rfl
                    · refine s_ek_bk 6 (P := 33) (ls' := [(0, .ref 0), (1, .int 2)]) (st' := [.ref 143]) (M' := s_M0) rfl ?_
                      refine s_ek_ret (o := some (.ref 143)) (fun _ => rfl) ?_
                      show s_Ek (s_rows 3 L xs) 1299 s_e166.1 28 [(6, .ref 145), (0, .ref 0), (1, .int 3), (2, .int b), (3, .int 2), (4, .int d), (5, .int e)] [.ref 143] s_M0 _
                      refine s_ek_bk 2 (P := 32) (ls' := [(7, .ref 143), (6, .ref 145), (0, .ref 0), (1, .int 3), (2, .int b), (3, .int 2), (4, .int d), (5, .int e)]) (st' := [.ref 145]) (M' := s_M0) rfl ?_
                      refine s_ek_call (ν := s_e84.1) (P := 35) (as := [.ref 145]) (r := []) (fun _ => rfl) rfl ?_
                      show s_Ek (s_rows 3 L xs) 1298 s_e84.1 0 [(0, .ref 145)] [] s_M0 _
                      refine s_ek_bk 6 (P := 13) (ls' := [(0, .ref 145)]) (st' := [.int 1]) (M' := s_M0) rfl ?_
                      refine s_ek_ret (o := some (.int 1)) (fun _ => rfl) ?_
                      show s_Ek (s_rows 3 L xs) 1299 s_e166.1 35 [(7, .ref 143), (6, .ref 145), (0, .ref 0), (1, .int 3), (2, .int b), (3, .int 2), (4, .int d), (5, .int e)] [.int 1] s_M0 _
                      refine s_ek_bk 2 (P := 48) (ls' := [(7, .ref 143), (6, .ref 145), (0, .ref 0), (1, .int 3), (2, .int b), (3, .int 2), (4, .int d), (5, .int e)]) (st' := [.int (-11)]) (M' := s_M0) rfl ?_
                      refine s_ek_ret (o := some (.int (-11))) (fun _ => rfl) ?_
                      refine ⟨(-11), rfl, ?_⟩
                      show s_Ek (s_rows 3 L xs) 1299 s_e287.1 0 [(0, .ref 151), (1, .int 3), (2, .int b), (3, .int 2), (4, .int d), (5, .int e)] [] s_M0 _
                      refine s_ek_bk 1 (P := 1) (ls' := [(0, .ref 151), (1, .int 3), (2, .int b), (3, .int 2), (4, .int d), (5, .int e)]) (st' := [.int 3]) (M' := s_M0) rfl ?_
                      refine s_ek_call (ν := s_e281.1) (P := 4) (as := [.int 3]) (r := []) (fun _ => rfl) rfl ?_
                      show s_Ek (s_rows 3 L xs) 1298 s_e281.1 0 [(0, .int 3)] [] s_M0 _
                      refine s_ek_bk 3 (P := 3) (ls' := [(0, .int 3)]) (st' := [.int 5, .int 0, .int 3]) (M' := s_M0) rfl ?_
                      refine s_ek_call (ν := s_e181.1) (P := 6) (as := [.int 3, .int 0, .int 5]) (r := []) (fun _ => rfl) rfl ?_
                      show s_Ek (s_rows 3 L xs) 1297 s_e181.1 0 [(0, .int 3), (1, .int 0), (2, .int 5)] [] s_M0 _
                      refine s_ek_bk 8 (P := 15) (ls' := [(0, .int 3), (1, .int 0), (2, .int 5)]) (st' := [.int 1]) (M' := s_M0) rfl ?_
                      refine s_ek_ret (o := some (.int 1)) (fun _ => rfl) ?_
                      show s_Ek (s_rows 3 L xs) 1298 s_e281.1 6 [(0, .int 3)] [.int 1] s_M0 _
                      refine s_ek_ret (o := some (.int 1)) (fun _ => rfl) ?_
                      show s_Ek (s_rows 3 L xs) 1299 s_e287.1 4 [(0, .ref 151), (1, .int 3), (2, .int b), (3, .int 2), (4, .int d), (5, .int e)] [.int 1] s_M0 _
                      refine s_ek_bk 2 (P := 8) (ls' := [(0, .ref 151), (1, .int 3), (2, .int b), (3, .int 2), (4, .int d), (5, .int e)]) (st' := [.int 2]) (M' := s_M0) rfl ?_
                      refine s_ek_call (ν := s_e281.1) (P := 11) (as := [.int 2]) (r := []) (fun _ => rfl) rfl ?_
                      show s_Ek (s_rows 3 L xs) 1298 s_e281.1 0 [(0, .int 2)] [] s_M0 _
                      refine s_ek_bk 3 (P := 3) (ls' := [(0, .int 2)]) (st' := [.int 5, .int 0, .int 2]) (M' := s_M0) rfl ?_
                      refine s_ek_call (ν := s_e181.1) (P := 6) (as := [.int 2, .int 0, .int 5]) (r := []) (fun _ => rfl) rfl ?_
                      show s_Ek (s_rows 3 L xs) 1297 s_e181.1 0 [(0, .int 2), (1, .int 0), (2, .int 5)] [] s_M0 _
                      refine s_ek_bk 8 (P := 15) (ls' := [(0, .int 2), (1, .int 0), (2, .int 5)]) (st' := [.int 1]) (M' := s_M0) rfl ?_
                      refine s_ek_ret (o := some (.int 1)) (fun _ => rfl) ?_
                      show s_Ek (s_rows 3 L xs) 1298 s_e281.1 6 [(0, .int 2)] [.int 1] s_M0 _
                      refine s_ek_ret (o := some (.int 1)) (fun _ => rfl) ?_
                      show s_Ek (s_rows 3 L xs) 1299 s_e287.1 11 [(0, .ref 151), (1, .int 3), (2, .int b), (3, .int 2), (4, .int d), (5, .int e)] [.int 1] s_M0 _
                      refine s_ek_bk 8 (P := 38) (ls' := [(0, .ref 151), (1, .int 3), (2, .int b), (3, .int 2), (4, .int d), (5, .int e)]) (st' := [.int (-11)]) (M' := s_M0) rfl ?_
                      refine s_ek_ret (o := some (.int (-11))) (fun _ => rfl) ?_
                      exact rfl
                    · refine s_ek_bk 6 (P := 33) (ls' := [(0, .ref 0), (1, .int 3)]) (st' := [.ref 145]) (M' := s_M0) rfl ?_
                      refine s_ek_ret (o := some (.ref 145)) (fun _ => rfl) ?_
                      show s_Ek (s_rows 3 L xs) 1299 s_e166.1 28 [(6, .ref 145), (0, .ref 0), (1, .int 3), (2, .int b), (3, .int 3), (4, .int d), (5, .int e)] [.ref 145] s_M0 _
                      refine s_ek_bk 2 (P := 32) (ls' := [(7, .ref 145), (6, .ref 145), (0, .ref 0), (1, .int 3), (2, .int b), (3, .int 3), (4, .int d), (5, .int e)]) (st' := [.ref 145]) (M' := s_M0) rfl ?_
                      refine s_ek_call (ν := s_e84.1) (P := 35) (as := [.ref 145]) (r := []) (fun _ => rfl) rfl ?_
                      show s_Ek (s_rows 3 L xs) 1298 s_e84.1 0 [(0, .ref 145)] [] s_M0 _
                      refine s_ek_bk 6 (P := 13) (ls' := [(0, .ref 145)]) (st' := [.int 1]) (M' := s_M0) rfl ?_
                      refine s_ek_ret (o := some (.int 1)) (fun _ => rfl) ?_
                      show s_Ek (s_rows 3 L xs) 1299 s_e166.1 35 [(7, .ref 145), (6, .ref 145), (0, .ref 0), (1, .int 3), (2, .int b), (3, .int 3), (4, .int d), (5, .int e)] [.int 1] s_M0 _
                      refine s_ek_bk 2 (P := 48) (ls' := [(7, .ref 145), (6, .ref 145), (0, .ref 0), (1, .int 3), (2, .int b), (3, .int 3), (4, .int d), (5, .int e)]) (st' := [.int (-11)]) (M' := s_M0) rfl ?_
                      refine s_ek_ret (o := some (.int (-11))) (fun _ => rfl) ?_
                      refine ⟨(-11), rfl, ?_⟩
                      show s_Ek (s_rows 3 L xs) 1299 s_e287.1 0 [(0, .ref 151), (1, .int 3), (2, .int b), (3, .int 3), (4, .int d), (5, .int e)] [] s_M0 _
                      refine s_ek_bk 1 (P := 1) (ls' := [(0, .ref 151), (1, .int 3), (2, .int b), (3, .int 3), (4, .int d), (5, .int e)]) (st' := [.int 3]) (M' := s_M0) rfl ?_
                      refine s_ek_call (ν := s_e281.1) (P := 4) (as := [.int 3]) (r := []) (fun _ => rfl) rfl ?_
                      show s_Ek (s_rows 3 L xs) 1298 s_e281.1 0 [(0, .int 3)] [] s_M0 _
                      refine s_ek_bk 3 (P := 3) (ls' := [(0, .int 3)]) (st' := [.int 5, .int 0, .int 3]) (M' := s_M0) rfl ?_
                      refine s_ek_call (ν := s_e181.1) (P := 6) (as := [.int 3, .int 0, .int 5]) (r := []) (fun _ => rfl) rfl ?_
                      show s_Ek (s_rows 3 L xs) 1297 s_e181.1 0 [(0, .int 3), (1, .int 0), (2, .int 5)] [] s_M0 _
                      refine s_ek_bk 8 (P := 15) (ls' := [(0, .int 3), (1, .int 0), (2, .int 5)]) (st' := [.int 1]) (M' := s_M0) rfl ?_
                      refine s_ek_ret (o := some (.int 1)) (fun _ => rfl) ?_
                      show s_Ek (s_rows 3 L xs) 1298 s_e281.1 6 [(0, .int 3)] [.int 1] s_M0 _
                      refine s_ek_ret (o := some (.int 1)) (fun _ => rfl) ?_
                      show s_Ek (s_rows 3 L xs) 1299 s_e287.1 4 [(0, .ref 151), (1, .int 3), (2, .int b), (3, .int 3), (4, .int d), (5, .int e)] [.int 1] s_M0 _
                      refine s_ek_bk 2 (P := 8) (ls' := [(0, .ref 151), (1, .int 3), (2, .int b), (3, .int 3), (4, .int d), (5, .int e)]) (st' := [.int 3]) (M' := s_M0) rfl ?_
                      refine s_ek_call (ν := s_e281.1) (P := 11) (as := [.int 3]) (r := []) (fun _ => rfl) rfl ?_
                      show s_Ek (s_rows 3 L xs) 1298 s_e281.1 0 [(0, .int 3)] [] s_M0 _
                      refine s_ek_bk 3 (P := 3) (ls' := [(0, .int 3)]) (st' := [.int 5, .int 0, .int 3]) (M' := s_M0) rfl ?_
                      refine s_ek_call (ν := s_e181.1) (P := 6) (as := [.int 3, .int 0, .int 5]) (r := []) (fun _ => rfl) rfl ?_
                      show s_Ek (s_rows 3 L xs) 1297 s_e181.1 0 [(0, .int 3), (1, .int 0), (2, .int 5)] [] s_M0 _
                      refine s_ek_bk 8 (P := 15) (ls' := [(0, .int 3), (1, .int 0), (2, .int 5)]) (st' := [.int 1]) (M' := s_M0) rfl ?_
                      refine s_ek_ret (o := some (.int 1)) (fun _ => rfl) ?_
                      show s_Ek (s_rows 3 L xs) 1298 s_e281.1 6 [(0, .int 3)] [.int 1] s_M0 _
                      refine s_ek_ret (o := some (.int 1)) (fun _ => rfl) ?_
                      show s_Ek (s_rows 3 L xs) 1299 s_e287.1 11 [(0, .ref 151), (1, .int 3), (2, .int b), (3, .int 3), (4, .int d), (5, .int e)] [.int 1] s_M0 _
                      refine s_ek_bk 8 (P := 38) (ls' := [(0, .ref 151), (1, .int 3), (2, .int b), (3, .int 3), (4, .int d), (5, .int e)]) (st' := [.int (-11)]) (M' := s_M0) rfl ?_
                      refine s_ek_ret (o := some (.int (-11))) (fun _ => rfl) ?_
                      exact rfl
                    · refine s_ek_bk 6 (P := 33) (ls' := [(0, .ref 0), (1, .int 4)]) (st' := [.ref 147]) (M' := s_M0) rfl ?_
                      refine s_ek_ret (o := some (.ref 147)) (fun _ => rfl) ?_
                      show s_Ek (s_rows 3 L xs) 1299 s_e166.1 28 [(6, .ref 145), (0, .ref 0), (1, .int 3), (2, .int b), (3, .int 4), (4, .int d), (5, .int e)] [.ref 147] s_M0 _
                      refine s_ek_bk 2 (P := 32) (ls' := [(7, .ref 147), (6, .ref 145), (0, .ref 0), (1, .int 3), (2, .int b), (3, .int 4), (4, .int d), (5, .int e)]) (st' := [.ref 145]) (M' := s_M0) rfl ?_
                      refine s_ek_call (ν := s_e84.1) (P := 35) (as := [.ref 145]) (r := []) (fun _ => rfl) rfl ?_
                      show s_Ek (s_rows 3 L xs) 1298 s_e84.1 0 [(0, .ref 145)] [] s_M0 _
                      refine s_ek_bk 6 (P := 13) (ls' := [(0, .ref 145)]) (st' := [.int 1]) (M' := s_M0) rfl ?_
                      refine s_ek_ret (o := some (.int 1)) (fun _ => rfl) ?_
                      show s_Ek (s_rows 3 L xs) 1299 s_e166.1 35 [(7, .ref 147), (6, .ref 145), (0, .ref 0), (1, .int 3), (2, .int b), (3, .int 4), (4, .int d), (5, .int e)] [.int 1] s_M0 _
                      refine s_ek_bk 2 (P := 48) (ls' := [(7, .ref 147), (6, .ref 145), (0, .ref 0), (1, .int 3), (2, .int b), (3, .int 4), (4, .int d), (5, .int e)]) (st' := [.int (-11)]) (M' := s_M0) rfl ?_
                      refine s_ek_ret (o := some (.int (-11))) (fun _ => rfl) ?_
                      refine ⟨(-11), rfl, ?_⟩
                      show s_Ek (s_rows 3 L xs) 1299 s_e287.1 0 [(0, .ref 151), (1, .int 3), (2, .int b), (3, .int 4), (4, .int d), (5, .int e)] [] s_M0 _
                      refine s_ek_bk 1 (P := 1) (ls' := [(0, .ref 151), (1, .int 3), (2, .int b), (3, .int 4), (4, .int d), (5, .int e)]) (st' := [.int 3]) (M' := s_M0) rfl ?_
                      refine s_ek_call (ν := s_e281.1) (P := 4) (as := [.int 3]) (r := []) (fun _ => rfl) rfl ?_
                      show s_Ek (s_rows 3 L xs) 1298 s_e281.1 0 [(0, .int 3)] [] s_M0 _
                      refine s_ek_bk 3 (P := 3) (ls' := [(0, .int 3)]) (st' := [.int 5, .int 0, .int 3]) (M' := s_M0) rfl ?_
                      refine s_ek_call (ν := s_e181.1) (P := 6) (as := [.int 3, .int 0, .int 5]) (r := []) (fun _ => rfl) rfl ?_
                      show s_Ek (s_rows 3 L xs) 1297 s_e181.1 0 [(0, .int 3), (1, .int 0), (2, .int 5)] [] s_M0 _
                      refine s_ek_bk 8 (P := 15) (ls' := [(0, .int 3), (1, .int 0), (2, .int 5)]) (st' := [.int 1]) (M' := s_M0) rfl ?_
                      refine s_ek_ret (o := some (.int 1)) (fun _ => rfl) ?_
                      show s_Ek (s_rows 3 L xs) 1298 s_e281.1 6 [(0, .int 3)] [.int 1] s_M0 _
                      refine s_ek_ret (o := some (.int 1)) (fun _ => rfl) ?_
                      show s_Ek (s_rows 3 L xs) 1299 s_e287.1 4 [(0, .ref 151), (1, .int 3), (2, .int b), (3, .int 4), (4, .int d), (5, .int e)] [.int 1] s_M0 _
                      refine s_ek_bk 2 (P := 8) (ls' := [(0, .ref 151), (1, .int 3), (2, .int b), (3, .int 4), (4, .int d), (5, .int e)]) (st' := [.int 4]) (M' := s_M0) rfl ?_
                      refine s_ek_call (ν := s_e281.1) (P := 11) (as := [.int 4]) (r := []) (fun _ => rfl) rfl ?_
                      show s_Ek (s_rows 3 L xs) 1298 s_e281.1 0 [(0, .int 4)] [] s_M0 _
                      refine s_ek_bk 3 (P := 3) (ls' := [(0, .int 4)]) (st' := [.int 5, .int 0, .int 4]) (M' := s_M0) rfl ?_
                      refine s_ek_call (ν := s_e181.1) (P := 6) (as := [.int 4, .int 0, .int 5]) (r := []) (fun _ => rfl) rfl ?_
                      show s_Ek (s_rows 3 L xs) 1297 s_e181.1 0 [(0, .int 4), (1, .int 0), (2, .int 5)] [] s_M0 _
                      refine s_ek_bk 8 (P := 15) (ls' := [(0, .int 4), (1, .int 0), (2, .int 5)]) (st' := [.int 1]) (M' := s_M0) rfl ?_
                      refine s_ek_ret (o := some (.int 1)) (fun _ => rfl) ?_
                      show s_Ek (s_rows 3 L xs) 1298 s_e281.1 6 [(0, .int 4)] [.int 1] s_M0 _
                      refine s_ek_ret (o := some (.int 1)) (fun _ => rfl) ?_
                      show s_Ek (s_rows 3 L xs) 1299 s_e287.1 11 [(0, .ref 151), (1, .int 3), (2, .int b), (3, .int 4), (4, .int d), (5, .int e)] [.int 1] s_M0 _
                      refine s_ek_bk 8 (P := 38) (ls' := [(0, .ref 151), (1, .int 3), (2, .int b), (3, .int 4), (4, .int d), (5, .int e)]) (st' := [.int (-11)]) (M' := s_M0) rfl ?_
                      refine s_ek_ret (o := some (.int (-11))) (fun _ => rfl) ?_
                      exact rfl
                    · refine s_ek_bk 6 (P := 33) (ls' := [(0, .ref 0), (1, .int 5)]) (st' := [.ref 149]) (M' := s_M0) rfl ?_
                      refine s_ek_ret (o := some (.ref 149)) (fun _ => rfl) ?_
                      show s_Ek (s_rows 3 L xs) 1299 s_e166.1 28 [(6, .ref 145), (0, .ref 0), (1, .int 3), (2, .int b), (3, .int 5), (4, .int d), (5, .int e)] [.ref 149] s_M0 _
                      refine s_ek_bk 2 (P := 32) (ls' := [(7, .ref 149), (6, .ref 145), (0, .ref 0), (1, .int 3), (2, .int b), (3, .int 5), (4, .int d), (5, .int e)]) (st' := [.ref 145]) (M' := s_M0) rfl ?_
                      refine s_ek_call (ν := s_e84.1) (P := 35) (as := [.ref 145]) (r := []) (fun _ => rfl) rfl ?_
                      show s_Ek (s_rows 3 L xs) 1298 s_e84.1 0 [(0, .ref 145)] [] s_M0 _
                      refine s_ek_bk 6 (P := 13) (ls' := [(0, .ref 145)]) (st' := [.int 1]) (M' := s_M0) rfl ?_
                      refine s_ek_ret (o := some (.int 1)) (fun _ => rfl) ?_
                      show s_Ek (s_rows 3 L xs) 1299 s_e166.1 35 [(7, .ref 149), (6, .ref 145), (0, .ref 0), (1, .int 3), (2, .int b), (3, .int 5), (4, .int d), (5, .int e)] [.int 1] s_M0 _
                      refine s_ek_bk 2 (P := 48) (ls' := [(7, .ref 149), (6, .ref 145), (0, .ref 0), (1, .int 3), (2, .int b), (3, .int 5), (4, .int d), (5, .int e)]) (st' := [.int (-11)]) (M' := s_M0) rfl ?_
                      refine s_ek_ret (o := some (.int (-11))) (fun _ => rfl) ?_
                      refine ⟨(-11), rfl, ?_⟩
                      show s_Ek (s_rows 3 L xs) 1299 s_e287.1 0 [(0, .ref 151), (1, .int 3), (2, .int b), (3, .int 5), (4, .int d), (5, .int e)] [] s_M0 _
                      refine s_ek_bk 1 (P := 1) (ls' := [(0, .ref 151), (1, .int 3), (2, .int b), (3, .int 5), (4, .int d), (5, .int e)]) (st' := [.int 3]) (M' := s_M0) rfl ?_
                      refine s_ek_call (ν := s_e281.1) (P := 4) (as := [.int 3]) (r := []) (fun _ => rfl) rfl ?_
                      show s_Ek (s_rows 3 L xs) 1298 s_e281.1 0 [(0, .int 3)] [] s_M0 _
                      refine s_ek_bk 3 (P := 3) (ls' := [(0, .int 3)]) (st' := [.int 5, .int 0, .int 3]) (M' := s_M0) rfl ?_
                      refine s_ek_call (ν := s_e181.1) (P := 6) (as := [.int 3, .int 0, .int 5]) (r := []) (fun _ => rfl) rfl ?_
                      show s_Ek (s_rows 3 L xs) 1297 s_e181.1 0 [(0, .int 3), (1, .int 0), (2, .int 5)] [] s_M0 _
                      refine s_ek_bk 8 (P := 15) (ls' := [(0, .int 3), (1, .int 0), (2, .int 5)]) (st' := [.int 1]) (M' := s_M0) rfl ?_
                      refine s_ek_ret (o := some (.int 1)) (fun _ => rfl) ?_
                      show s_Ek (s_rows 3 L xs) 1298 s_e281.1 6 [(0, .int 3)] [.int 1] s_M0 _
                      refine s_ek_ret (o := some (.int 1)) (fun _ => rfl) ?_
                      show s_Ek (s_rows 3 L xs) 1299 s_e287.1 4 [(0, .ref 151), (1, .int 3), (2, .int b), (3, .int 5), (4, .int d), (5, .int e)] [.int 1] s_M0 _
                      refine s_ek_bk 2 (P := 8) (ls' := [(0, .ref 151), (1, .int 3), (2, .int b), (3, .int 5), (4, .int d), (5, .int e)]) (st' := [.int 5]) (M' := s_M0) rfl ?_
                      refine s_ek_call (ν := s_e281.1) (P := 11) (as := [.int 5]) (r := []) (fun _ => rfl) rfl ?_
                      show s_Ek (s_rows 3 L xs) 1298 s_e281.1 0 [(0, .int 5)] [] s_M0 _
                      refine s_ek_bk 3 (P := 3) (ls' := [(0, .int 5)]) (st' := [.int 5, .int 0, .int 5]) (M' := s_M0) rfl ?_
                      refine s_ek_call (ν := s_e181.1) (P := 6) (as := [.int 5, .int 0, .int 5]) (r := []) (fun _ => rfl) rfl ?_
                      show s_Ek (s_rows 3 L xs) 1297 s_e181.1 0 [(0, .int 5), (1, .int 0), (2, .int 5)] [] s_M0 _
                      refine s_ek_bk 8 (P := 15) (ls' := [(0, .int 5), (1, .int 0), (2, .int 5)]) (st' := [.int 1]) (M' := s_M0) rfl ?_
                      refine s_ek_ret (o := some (.int 1)) (fun _ => rfl) ?_
                      show s_Ek (s_rows 3 L xs) 1298 s_e281.1 6 [(0, .int 5)] [.int 1] s_M0 _
                      refine s_ek_ret (o := some (.int 1)) (fun _ => rfl) ?_
                      show s_Ek (s_rows 3 L xs) 1299 s_e287.1 11 [(0, .ref 151), (1, .int 3), (2, .int b), (3, .int 5), (4, .int d), (5, .int e)] [.int 1] s_M0 _
                      refine s_ek_bk 8 (P := 38) (ls' := [(0, .ref 151), (1, .int 3), (2, .int b), (3, .int 5), (4, .int d), (5, .int e)]) (st' := [.int (-11)]) (M' := s_M0) rfl ?_
                      refine s_ek_ret (o := some (.int (-11))) (fun _ => rfl) ?_
                      exact rfl
              · refine s_ek_bk 6 (P := 33) (ls' := [(0, .ref 0), (1, .int 4)]) (st' := [.ref 147]) (M' := s_M0) rfl ?_
                refine s_ek_ret (o := some (.ref 147)) (fun _ => rfl) ?_
                show s_Ek (s_rows 3 L xs) 1299 s_e166.1 21 [(0, .ref 0), (1, .int 4), (2, .int b), (3, .int c), (4, .int d), (5, .int e)] [.ref 147] s_M0 _
                refine s_ek_bk 3 (P := 25) (ls' := [(6, .ref 147), (0, .ref 0), (1, .int 4), (2, .int b), (3, .int c), (4, .int d), (5, .int e)]) (st' := [.int c, .ref 0]) (M' := s_M0) rfl ?_
                refine s_ek_call (ν := s_e176.1) (P := 28) (as := [.ref 0, .int c]) (r := []) (fun _ => rfl) rfl ?_
                show s_Ek (s_rows 3 L xs) 1298 s_e176.1 0 [(0, .ref 0), (1, .int c)] [] s_M0 _
                refine s_ek_bk 1 (P := 1) (ls' := [(0, .ref 0), (1, .int c)]) (st' := [.int c]) (M' := s_M0) rfl ?_
                refine s_ek_if1 (T := 22) rfl rfl (fun h7 => ?_) (fun h7 => ?_)
                · replace h7 : c.toInt < 0 := h7
                  omega
                · replace h7 : ¬ (c.toInt < 0) := h7
                  replace h7 : 0 ≤ c.toInt := by omega
                  refine s_ek_bk 4 (P := 10) (ls' := [(0, .ref 0), (1, .int c)]) (st' := [.int 6, .int c]) (M' := s_M0) rfl ?_
                  refine s_ek_if2 (T := 22) rfl rfl (fun h8 => ?_) (fun h8 => ?_)
                  · replace h8 : 6 ≤ c.toInt := h8
                    omega
                  · replace h8 : ¬ (6 ≤ c.toInt) := h8
                    replace h8 : c.toInt < 6 := by omega
                    refine s_ek_bk 3 (P := 18) (ls' := [(0, .ref 0), (1, .int c)]) (st' := [.int c, .ref 135]) (M' := s_M0) rfl ?_
                    rcases s_rg_0_5 (a := c) (by omega) (by omega) with rfl | rfl | rfl | rfl | rfl | rfl
                    · refine s_ek_bk 6 (P := 33) (ls' := [(0, .ref 0), (1, .int 0)]) (st' := [.ref 139]) (M' := s_M0) rfl ?_
                      refine s_ek_ret (o := some (.ref 139)) (fun _ => rfl) ?_
                      show s_Ek (s_rows 3 L xs) 1299 s_e166.1 28 [(6, .ref 147), (0, .ref 0), (1, .int 4), (2, .int b), (3, .int 0), (4, .int d), (5, .int e)] [.ref 139] s_M0 _
                      refine s_ek_bk 2 (P := 32) (ls' := [(7, .ref 139), (6, .ref 147), (0, .ref 0), (1, .int 4), (2, .int b), (3, .int 0), (4, .int d), (5, .int e)]) (st' := [.ref 147]) (M' := s_M0) rfl ?_
                      refine s_ek_call (ν := s_e84.1) (P := 35) (as := [.ref 147]) (r := []) (fun _ => rfl) rfl ?_
                      show s_Ek (s_rows 3 L xs) 1298 s_e84.1 0 [(0, .ref 147)] [] s_M0 _
                      refine s_ek_bk 6 (P := 13) (ls' := [(0, .ref 147)]) (st' := [.int 1]) (M' := s_M0) rfl ?_
                      refine s_ek_ret (o := some (.int 1)) (fun _ => rfl) ?_
                      show s_Ek (s_rows 3 L xs) 1299 s_e166.1 35 [(7, .ref 139), (6, .ref 147), (0, .ref 0), (1, .int 4), (2, .int b), (3, .int 0), (4, .int d), (5, .int e)] [.int 1] s_M0 _
                      refine s_ek_bk 2 (P := 48) (ls' := [(7, .ref 139), (6, .ref 147), (0, .ref 0), (1, .int 4), (2, .int b), (3, .int 0), (4, .int d), (5, .int e)]) (st' := [.int (-11)]) (M' := s_M0) rfl ?_
                      refine s_ek_ret (o := some (.int (-11))) (fun _ => rfl) ?_
                      refine ⟨(-11), rfl, ?_⟩
                      show s_Ek (s_rows 3 L xs) 1299 s_e287.1 0 [(0, .ref 151), (1, .int 4), (2, .int b), (3, .int 0), (4, .int d), (5, .int e)] [] s_M0 _
                      refine s_ek_bk 1 (P := 1) (ls' := [(0, .ref 151), (1, .int 4), (2, .int b), (3, .int 0), (4, .int d), (5, .int e)]) (st' := [.int 4]) (M' := s_M0) rfl ?_
                      refine s_ek_call (ν := s_e281.1) (P := 4) (as := [.int 4]) (r := []) (fun _ => rfl) rfl ?_
                      show s_Ek (s_rows 3 L xs) 1298 s_e281.1 0 [(0, .int 4)] [] s_M0 _
                      refine s_ek_bk 3 (P := 3) (ls' := [(0, .int 4)]) (st' := [.int 5, .int 0, .int 4]) (M' := s_M0) rfl ?_
                      refine s_ek_call (ν := s_e181.1) (P := 6) (as := [.int 4, .int 0, .int 5]) (r := []) (fun _ => rfl) rfl ?_
                      show s_Ek (s_rows 3 L xs) 1297 s_e181.1 0 [(0, .int 4), (1, .int 0), (2, .int 5)] [] s_M0 _
                      refine s_ek_bk 8 (P := 15) (ls' := [(0, .int 4), (1, .int 0), (2, .int 5)]) (st' := [.int 1]) (M' := s_M0) rfl ?_
                      refine s_ek_ret (o := some (.int 1)) (fun _ => rfl) ?_
                      show s_Ek (s_rows 3 L xs) 1298 s_e281.1 6 [(0, .int 4)] [.int 1] s_M0 _
                      refine s_ek_ret (o := some (.int 1)) (fun _ => rfl) ?_
                      show s_Ek (s_rows 3 L xs) 1299 s_e287.1 4 [(0, .ref 151), (1, .int 4), (2, .int b), (3, .int 0), (4, .int d), (5, .int e)] [.int 1] s_M0 _
                      refine s_ek_bk 2 (P := 8) (ls' := [(0, .ref 151), (1, .int 4), (2, .int b), (3, .int 0), (4, .int d), (5, .int e)]) (st' := [.int 0]) (M' := s_M0) rfl ?_
                      refine s_ek_call (ν := s_e281.1) (P := 11) (as := [.int 0]) (r := []) (fun _ => rfl) rfl ?_
                      show s_Ek (s_rows 3 L xs) 1298 s_e281.1 0 [(0, .int 0)] [] s_M0 _
                      refine s_ek_bk 3 (P := 3) (ls' := [(0, .int 0)]) (st' := [.int 5, .int 0, .int 0]) (M' := s_M0) rfl ?_
                      refine s_ek_call (ν := s_e181.1) (P := 6) (as := [.int 0, .int 0, .int 5]) (r := []) (fun _ => rfl) rfl ?_
                      show s_Ek (s_rows 3 L xs) 1297 s_e181.1 0 [(0, .int 0), (1, .int 0), (2, .int 5)] [] s_M0 _
                      refine s_ek_bk 8 (P := 15) (ls' := [(0, .int 0), (1, .int 0), (2, .int 5)]) (st' := [.int 1]) (M' := s_M0) rfl ?_
                      refine s_ek_ret (o := some (.int 1)) (fun _ => rfl) ?_
                      show s_Ek (s_rows 3 L xs) 1298 s_e281.1 6 [(0, .int 0)] [.int 1] s_M0 _
                      refine s_ek_ret (o := some (.int 1)) (fun _ => rfl) ?_
                      show s_Ek (s_rows 3 L xs) 1299 s_e287.1 11 [(0, .ref 151), (1, .int 4), (2, .int b), (3, .int 0), (4, .int d), (5, .int e)] [.int 1] s_M0 _
                      refine s_ek_bk 8 (P := 38) (ls' := [(0, .ref 151), (1, .int 4), (2, .int b), (3, .int 0), (4, .int d), (5, .int e)]) (st' := [.int (-11)]) (M' := s_M0) rfl ?_
                      refine s_ek_ret (o := some (.int (-11))) (fun _ => rfl) ?_
                      exact rfl
                    · refine s_ek_bk 6 (P := 33) (ls' := [(0, .ref 0), (1, .int 1)]) (st' := [.ref 141]) (M' := s_M0) rfl ?_
                      refine s_ek_ret (o := some (.ref 141)) (fun _ => rfl) ?_
                      show s_Ek (s_rows 3 L xs) 1299 s_e166.1 28 [(6, .ref 147), (0, .ref 0), (1, .int 4), (2, .int b), (3, .int 1), (4, .int d), (5, .int e)] [.ref 141] s_M0 _
                      refine s_ek_bk 2 (P := 32) (ls' := [(7, .ref 141), (6, .ref 147), (0, .ref 0), (1, .int 4), (2, .int b), (3, .int 1), (4, .int d), (5, .int e)]) (st' := [.ref 147]) (M' := s_M0) rfl ?_
                      refine s_ek_call (ν := s_e84.1) (P := 35) (as := [.ref 147]) (r := []) (fun _ => rfl) rfl ?_
                      show s_Ek (s_rows 3 L xs) 1298 s_e84.1 0 [(0, .ref 147)] [] s_M0 _
                      refine s_ek_bk 6 (P := 13) (ls' := [(0, .ref 147)]) (st' := [.int 1]) (M' := s_M0) rfl ?_
                      refine s_ek_ret (o := some (.int 1)) (fun _ => rfl) ?_
                      show s_Ek (s_rows 3 L xs) 1299 s_e166.1 35 [(7, .ref 141), (6, .ref 147), (0, .ref 0), (1, .int 4), (2, .int b), (3, .int 1), (4, .int d), (5, .int e)] [.int 1] s_M0 _
                      refine s_ek_bk 2 (P := 48) (ls' := [(7, .ref 141), (6, .ref 147), (0, .ref 0), (1, .int 4), (2, .int b), (3, .int 1), (4, .int d), (5, .int e)]) (st' := [.int (-11)]) (M' := s_M0) rfl ?_
                      refine s_ek_ret (o := some (.int (-11))) (fun _ => rfl) ?_
                      refine ⟨(-11), rfl, ?_⟩
                      show s_Ek (s_rows 3 L xs) 1299 s_e287.1 0 [(0, .ref 151), (1, .int 4), (2, .int b), (3, .int 1), (4, .int d), (5, .int e)] [] s_M0 _
                      refine s_ek_bk 1 (P := 1) (ls' := [(0, .ref 151), (1, .int 4), (2, .int b), (3, .int 1), (4, .int d), (5, .int e)]) (st' := [.int 4]) (M' := s_M0) rfl ?_
                      refine s_ek_call (ν := s_e281.1) (P := 4) (as := [.int 4]) (r := []) (fun _ => rfl) rfl ?_
                      show s_Ek (s_rows 3 L xs) 1298 s_e281.1 0 [(0, .int 4)] [] s_M0 _
                      refine s_ek_bk 3 (P := 3) (ls' := [(0, .int 4)]) (st' := [.int 5, .int 0, .int 4]) (M' := s_M0) rfl ?_
                      refine s_ek_call (ν := s_e181.1) (P := 6) (as := [.int 4, .int 0, .int 5]) (r := []) (fun _ => rfl) rfl ?_
                      show s_Ek (s_rows 3 L xs) 1297 s_e181.1 0 [(0, .int 4), (1, .int 0), (2, .int 5)] [] s_M0 _
                      refine s_ek_bk 8 (P := 15) (ls' := [(0, .int 4), (1, .int 0), (2, .int 5)]) (st' := [.int 1]) (M' := s_M0) rfl ?_
                      refine s_ek_ret (o := some (.int 1)) (fun _ => rfl) ?_
                      show s_Ek (s_rows 3 L xs) 1298 s_e281.1 6 [(0, .int 4)] [.int 1] s_M0 _
                      refine s_ek_ret (o := some (.int 1)) (fun _ => rfl) ?_
                      show s_Ek (s_rows 3 L xs) 1299 s_e287.1 4 [(0, .ref 151), (1, .int 4), (2, .int b), (3, .int 1), (4, .int d), (5, .int e)] [.int 1] s_M0 _
                      refine s_ek_bk 2 (P := 8) (ls' := [(0, .ref 151), (1, .int 4), (2, .int b), (3, .int 1), (4, .int d), (5, .int e)]) (st' := [.int 1]) (M' := s_M0) rfl ?_
                      refine s_ek_call (ν := s_e281.1) (P := 11) (as := [.int 1]) (r := []) (fun _ => rfl) rfl ?_
                      show s_Ek (s_rows 3 L xs) 1298 s_e281.1 0 [(0, .int 1)] [] s_M0 _
                      refine s_ek_bk 3 (P := 3) (ls' := [(0, .int 1)]) (st' := [.int 5, .int 0, .int 1]) (M' := s_M0) rfl ?_
                      refine s_ek_call (ν := s_e181.1) (P := 6) (as := [.int 1, .int 0, .int 5]) (r := []) (fun _ => rfl) rfl ?_
                      show s_Ek (s_rows 3 L xs) 1297 s_e181.1 0 [(0, .int 1), (1, .int 0), (2, .int 5)] [] s_M0 _
                      refine s_ek_bk 8 (P := 15) (ls' := [(0, .int 1), (1, .int 0), (2, .int 5)]) (st' := [.int 1]) (M' := s_M0) rfl ?_
                      refine s_ek_ret (o := some (.int 1)) (fun _ => rfl) ?_
                      show s_Ek (s_rows 3 L xs) 1298 s_e281.1 6 [(0, .int 1)] [.int 1] s_M0 _
                      refine s_ek_ret (o := some (.int 1)) (fun _ => rfl) ?_
                      show s_Ek (s_rows 3 L xs) 1299 s_e287.1 11 [(0, .ref 151), (1, .int 4), (2, .int b), (3, .int 1), (4, .int d), (5, .int e)] [.int 1] s_M0 _
                      refine s_ek_bk 8 (P := 38) (ls' := [(0, .ref 151), (1, .int 4), (2, .int b), (3, .int 1), (4, .int d), (5, .int e)]) (st' := [.int (-11)]) (M' := s_M0) rfl ?_
                      refine s_ek_ret (o := some (.int (-11))) (fun _ => rfl) ?_
                      exact rfl
                    · refine s_ek_bk 6 (P := 33) (ls' := [(0, .ref 0), (1, .int 2)]) (st' := [.ref 143]) (M' := s_M0) rfl ?_
                      refine s_ek_ret (o := some (.ref 143)) (fun _ => rfl) ?_
                      show s_Ek (s_rows 3 L xs) 1299 s_e166.1 28 [(6, .ref 147), (0, .ref 0), (1, .int 4), (2, .int b), (3, .int 2), (4, .int d), (5, .int e)] [.ref 143] s_M0 _
                      refine s_ek_bk 2 (P := 32) (ls' := [(7, .ref 143), (6, .ref 147), (0, .ref 0), (1, .int 4), (2, .int b), (3, .int 2), (4, .int d), (5, .int e)]) (st' := [.ref 147]) (M' := s_M0) rfl ?_
                      refine s_ek_call (ν := s_e84.1) (P := 35) (as := [.ref 147]) (r := []) (fun _ => rfl) rfl ?_
                      show s_Ek (s_rows 3 L xs) 1298 s_e84.1 0 [(0, .ref 147)] [] s_M0 _
                      refine s_ek_bk 6 (P := 13) (ls' := [(0, .ref 147)]) (st' := [.int 1]) (M' := s_M0) rfl ?_
                      refine s_ek_ret (o := some (.int 1)) (fun _ => rfl) ?_
                      show s_Ek (s_rows 3 L xs) 1299 s_e166.1 35 [(7, .ref 143), (6, .ref 147), (0, .ref 0), (1, .int 4), (2, .int b), (3, .int 2), (4, .int d), (5, .int e)] [.int 1] s_M0 _
                      refine s_ek_bk 2 (P := 48) (ls' := [(7, .ref 143), (6, .ref 147), (0, .ref 0), (1, .int 4), (2, .int b), (3, .int 2), (4, .int d), (5, .int e)]) (st' := [.int (-11)]) (M' := s_M0) rfl ?_
                      refine s_ek_ret (o := some (.int (-11))) (fun _ => rfl) ?_
                      refine ⟨(-11), rfl, ?_⟩
                      show s_Ek (s_rows 3 L xs) 1299 s_e287.1 0 [(0, .ref 151), (1, .int 4), (2, .int b), (3, .int 2), (4, .int d), (5, .int e)] [] s_M0 _
                      refine s_ek_bk 1 (P := 1) (ls' := [(0, .ref 151), (1, .int 4), (2, .int b), (3, .int 2), (4, .int d), (5, .int e)]) (st' := [.int 4]) (M' := s_M0) rfl ?_
                      refine s_ek_call (ν := s_e281.1) (P := 4) (as := [.int 4]) (r := []) (fun _ => rfl) rfl ?_
                      show s_Ek (s_rows 3 L xs) 1298 s_e281.1 0 [(0, .int 4)] [] s_M0 _
                      refine s_ek_bk 3 (P := 3) (ls' := [(0, .int 4)]) (st' := [.int 5, .int 0, .int 4]) (M' := s_M0) rfl ?_
                      refine s_ek_call (ν := s_e181.1) (P := 6) (as := [.int 4, .int 0, .int 5]) (r := []) (fun _ => rfl) rfl ?_
                      show s_Ek (s_rows 3 L xs) 1297 s_e181.1 0 [(0, .int 4), (1, .int 0), (2, .int 5)] [] s_M0 _
                      refine s_ek_bk 8 (P := 15) (ls' := [(0, .int 4), (1, .int 0), (2, .int 5)]) (st' := [.int 1]) (M' := s_M0) rfl ?_
                      refine s_ek_ret (o := some (.int 1)) (fun _ => rfl) ?_
                      show s_Ek (s_rows 3 L xs) 1298 s_e281.1 6 [(0, .int 4)] [.int 1] s_M0 _
                      refine s_ek_ret (o := some (.int 1)) (fun _ => rfl) ?_
                      show s_Ek (s_rows 3 L xs) 1299 s_e287.1 4 [(0, .ref 151), (1, .int 4), (2, .int b), (3, .int 2), (4, .int d), (5, .int e)] [.int 1] s_M0 _
                      refine s_ek_bk 2 (P := 8) (ls' := [(0, .ref 151), (1, .int 4), (2, .int b), (3, .int 2), (4, .int d), (5, .int e)]) (st' := [.int 2]) (M' := s_M0) rfl ?_
                      refine s_ek_call (ν := s_e281.1) (P := 11) (as := [.int 2]) (r := []) (fun _ => rfl) rfl ?_
                      show s_Ek (s_rows 3 L xs) 1298 s_e281.1 0 [(0, .int 2)] [] s_M0 _
                      refine s_ek_bk 3 (P := 3) (ls' := [(0, .int 2)]) (st' := [.int 5, .int 0, .int 2]) (M' := s_M0) rfl ?_
                      refine s_ek_call (ν := s_e181.1) (P := 6) (as := [.int 2, .int 0, .int 5]) (r := []) (fun _ => rfl) rfl ?_
                      show s_Ek (s_rows 3 L xs) 1297 s_e181.1 0 [(0, .int 2), (1, .int 0), (2, .int 5)] [] s_M0 _
                      refine s_ek_bk 8 (P := 15) (ls' := [(0, .int 2), (1, .int 0), (2, .int 5)]) (st' := [.int 1]) (M' := s_M0) rfl ?_
                      refine s_ek_ret (o := some (.int 1)) (fun _ => rfl) ?_
                      show s_Ek (s_rows 3 L xs) 1298 s_e281.1 6 [(0, .int 2)] [.int 1] s_M0 _
                      refine s_ek_ret (o := some (.int 1)) (fun _ => rfl) ?_
                      show s_Ek (s_rows 3 L xs) 1299 s_e287.1 11 [(0, .ref 151), (1, .int 4), (2, .int b), (3, .int 2), (4, .int d), (5, .int e)] [.int 1] s_M0 _
                      refine s_ek_bk 8 (P := 38) (ls' := [(0, .ref 151), (1, .int 4), (2, .int b), (3, .int 2), (4, .int d), (5, .int e)]) (st' := [.int (-11)]) (M' := s_M0) rfl ?_
                      refine s_ek_ret (o := some (.int (-11))) (fun _ => rfl) ?_
                      exact rfl
                    · refine s_ek_bk 6 (P := 33) (ls' := [(0, .ref 0), (1, .int 3)]) (st' := [.ref 145]) (M' := s_M0) rfl ?_
                      refine s_ek_ret (o := some (.ref 145)) (fun _ => rfl) ?_
                      show s_Ek (s_rows 3 L xs) 1299 s_e166.1 28 [(6, .ref 147), (0, .ref 0), (1, .int 4), (2, .int b), (3, .int 3), (4, .int d), (5, .int e)] [.ref 145] s_M0 _
                      refine s_ek_bk 2 (P := 32) (ls' := [(7, .ref 145), (6, .ref 147), (0, .ref 0), (1, .int 4), (2, .int b), (3, .int 3), (4, .int d), (5, .int e)]) (st' := [.ref 147]) (M' := s_M0) rfl ?_
                      refine s_ek_call (ν := s_e84.1) (P := 35) (as := [.ref 147]) (r := []) (fun _ => rfl) rfl ?_
                      show s_Ek (s_rows 3 L xs) 1298 s_e84.1 0 [(0, .ref 147)] [] s_M0 _
                      refine s_ek_bk 6 (P := 13) (ls' := [(0, .ref 147)]) (st' := [.int 1]) (M' := s_M0) rfl ?_
                      refine s_ek_ret (o := some (.int 1)) (fun _ => rfl) ?_
                      show s_Ek (s_rows 3 L xs) 1299 s_e166.1 35 [(7, .ref 145), (6, .ref 147), (0, .ref 0), (1, .int 4), (2, .int b), (3, .int 3), (4, .int d), (5, .int e)] [.int 1] s_M0 _
                      refine s_ek_bk 2 (P := 48) (ls' := [(7, .ref 145), (6, .ref 147), (0, .ref 0), (1, .int 4), (2, .int b), (3, .int 3), (4, .int d), (5, .int e)]) (st' := [.int (-11)]) (M' := s_M0) rfl ?_
                      refine s_ek_ret (o := some (.int (-11))) (fun _ => rfl) ?_
                      refine ⟨(-11), rfl, ?_⟩
                      show s_Ek (s_rows 3 L xs) 1299 s_e287.1 0 [(0, .ref 151), (1, .int 4), (2, .int b), (3, .int 3), (4, .int d), (5, .int e)] [] s_M0 _
                      refine s_ek_bk 1 (P := 1) (ls' := [(0, .ref 151), (1, .int 4), (2, .int b), (3, .int 3), (4, .int d), (5, .int e)]) (st' := [.int 4]) (M' := s_M0) rfl ?_
                      refine s_ek_call (ν := s_e281.1) (P := 4) (as := [.int 4]) (r := []) (fun _ => rfl) rfl ?_
                      show s_Ek (s_rows 3 L xs) 1298 s_e281.1 0 [(0, .int 4)] [] s_M0 _
                      refine s_ek_bk 3 (P := 3) (ls' := [(0, .int 4)]) (st' := [.int 5, .int 0, .int 4]) (M' := s_M0) rfl ?_
                      refine s_ek_call (ν := s_e181.1) (P := 6) (as := [.int 4, .int 0, .int 5]) (r := []) (fun _ => rfl) rfl ?_
                      show s_Ek (s_rows 3 L xs) 1297 s_e181.1 0 [(0, .int 4), (1, .int 0), (2, .int 5)] [] s_M0 _
                      refine s_ek_bk 8 (P := 15) (ls' := [(0, .int 4), (1, .int 0), (2, .int 5)]) (st' := [.int 1]) (M' := s_M0) rfl ?_
                      refine s_ek_ret (o := some (.int 1)) (fun _ => rfl) ?_
                      show s_Ek (s_rows 3 L xs) 1298 s_e281.1 6 [(0, .int 4)] [.int 1] s_M0 _
                      refine s_ek_ret (o := some (.int 1)) (fun _ => rfl) ?_
                      show s_Ek (s_rows 3 L xs) 1299 s_e287.1 4 [(0, .ref 151), (1, .int 4), (2, .int b), (3, .int 3), (4, .int d), (5, .int e)] [.int 1] s_M0 _
                      refine s_ek_bk 2 (P := 8) (ls' := [(0, .ref 151), (1, .int 4), (2, .int b), (3, .int 3), (4, .int d), (5, .int e)]) (st' := [.int 3]) (M' := s_M0) rfl ?_
                      refine s_ek_call (ν := s_e281.1) (P := 11) (as := [.int 3]) (r := []) (fun _ => rfl) rfl ?_
                      show s_Ek (s_rows 3 L xs) 1298 s_e281.1 0 [(0, .int 3)] [] s_M0 _
                      refine s_ek_bk 3 (P := 3) (ls' := [(0, .int 3)]) (st' := [.int 5, .int 0, .int 3]) (M' := s_M0) rfl ?_
                      refine s_ek_call (ν := s_e181.1) (P := 6) (as := [.int 3, .int 0, .int 5]) (r := []) (fun _ => rfl) rfl ?_
                      show s_Ek (s_rows 3 L xs) 1297 s_e181.1 0 [(0, .int 3), (1, .int 0), (2, .int 5)] [] s_M0 _
                      refine s_ek_bk 8 (P := 15) (ls' := [(0, .int 3), (1, .int 0), (2, .int 5)]) (st' := [.int 1]) (M' := s_M0) rfl ?_
                      refine s_ek_ret (o := some (.int 1)) (fun _ => rfl) ?_
                      show s_Ek (s_rows 3 L xs) 1298 s_e281.1 6 [(0, .int 3)] [.int 1] s_M0 _
                      refine s_ek_ret (o := some (.int 1)) (fun _ => rfl) ?_
                      show s_Ek (s_rows 3 L xs) 1299 s_e287.1 11 [(0, .ref 151), (1, .int 4), (2, .int b), (3, .int 3), (4, .int d), (5, .int e)] [.int 1] s_M0 _
                      refine s_ek_bk 8 (P := 38) (ls' := [(0, .ref 151), (1, .int 4), (2, .int b), (3, .int 3), (4, .int d), (5, .int e)]) (st' := [.int (-11)]) (M' := s_M0) rfl ?_
                      refine s_ek_ret (o := some (.int (-11))) (fun _ => rfl) ?_
                      exact rfl
                    · refine s_ek_bk 6 (P := 33) (ls' := [(0, .ref 0), (1, .int 4)]) (st' := [.ref 147]) (M' := s_M0) rfl ?_
                      refine s_ek_ret (o := some (.ref 147)) (fun _ => rfl) ?_
                      show s_Ek (s_rows 3 L xs) 1299 s_e166.1 28 [(6, .ref 147), (0, .ref 0), (1, .int 4), (2, .int b), (3, .int 4), (4, .int d), (5, .int e)] [.ref 147] s_M0 _
                      refine s_ek_bk 2 (P := 32) (ls' := [(7, .ref 147), (6, .ref 147), (0, .ref 0), (1, .int 4), (2, .int b), (3, .int 4), (4, .int d), (5, .int e)]) (st' := [.ref 147]) (M' := s_M0) rfl ?_
                      refine s_ek_call (ν := s_e84.1) (P := 35) (as := [.ref 147]) (r := []) (fun _ => rfl) rfl ?_
                      show s_Ek (s_rows 3 L xs) 1298 s_e84.1 0 [(0, .ref 147)] [] s_M0 _
                      refine s_ek_bk 6 (P := 13) (ls' := [(0, .ref 147)]) (st' := [.int 1]) (M' := s_M0) rfl ?_
                      refine s_ek_ret (o := some (.int 1)) (fun _ => rfl) ?_
                      show s_Ek (s_rows 3 L xs) 1299 s_e166.1 35 [(7, .ref 147), (6, .ref 147), (0, .ref 0), (1, .int 4), (2, .int b), (3, .int 4), (4, .int d), (5, .int e)] [.int 1] s_M0 _
                      refine s_ek_bk 2 (P := 48) (ls' := [(7, .ref 147), (6, .ref 147), (0, .ref 0), (1, .int 4), (2, .int b), (3, .int 4), (4, .int d), (5, .int e)]) (st' := [.int (-11)]) (M' := s_M0) rfl ?_
                      refine s_ek_ret (o := some (.int (-11))) (fun _ => rfl) ?_
                      refine ⟨(-11), rfl, ?_⟩
                      show s_Ek (s_rows 3 L xs) 1299 s_e287.1 0 [(0, .ref 151), (1, .int 4), (2, .int b), (3, .int 4), (4, .int d), (5, .int e)] [] s_M0 _
                      refine s_ek_bk 1 (P := 1) (ls' := [(0, .ref 151), (1, .int 4), (2, .int b), (3, .int 4), (4, .int d), (5, .int e)]) (st' := [.int 4]) (M' := s_M0) rfl ?_
                      refine s_ek_call (ν := s_e281.1) (P := 4) (as := [.int 4]) (r := []) (fun _ => rfl) rfl ?_
                      show s_Ek (s_rows 3 L xs) 1298 s_e281.1 0 [(0, .int 4)] [] s_M0 _
                      refine s_ek_bk 3 (P := 3) (ls' := [(0, .int 4)]) (st' := [.int 5, .int 0, .int 4]) (M' := s_M0) rfl ?_
                      refine s_ek_call (ν := s_e181.1) (P := 6) (as := [.int 4, .int 0, .int 5]) (r := []) (fun _ => rfl) rfl ?_
                      show s_Ek (s_rows 3 L xs) 1297 s_e181.1 0 [(0, .int 4), (1, .int 0), (2, .int 5)] [] s_M0 _
                      refine s_ek_bk 8 (P := 15) (ls' := [(0, .int 4), (1, .int 0), (2, .int 5)]) (st' := [.int 1]) (M' := s_M0) rfl ?_
                      refine s_ek_ret (o := some (.int 1)) (fun _ => rfl) ?_
                      show s_Ek (s_rows 3 L xs) 1298 s_e281.1 6 [(0, .int 4)] [.int 1] s_M0 _
                      refine s_ek_ret (o := some (.int 1)) (fun _ => rfl) ?_
                      show s_Ek (s_rows 3 L xs) 1299 s_e287.1 4 [(0, .ref 151), (1, .int 4), (2, .int b), (3, .int 4), (4, .int d), (5, .int e)] [.int 1] s_M0 _
                      refine s_ek_bk 2 (P := 8) (ls' := [(0, .ref 151), (1, .int 4), (2, .int b), (3, .int 4), (4, .int d), (5, .int e)]) (st' := [.int 4]) (M' := s_M0) rfl ?_
                      refine s_ek_call (ν := s_e281.1) (P := 11) (as := [.int 4]) (r := []) (fun _ => rfl) rfl ?_
                      show s_Ek (s_rows 3 L xs) 1298 s_e281.1 0 [(0, .int 4)] [] s_M0 _
                      refine s_ek_bk 3 (P := 3) (ls' := [(0, .int 4)]) (st' := [.int 5, .int 0, .int 4]) (M' := s_M0) rfl ?_
                      refine s_ek_call (ν := s_e181.1) (P := 6) (as := [.int 4, .int 0, .int 5]) (r := []) (fun _ => rfl) rfl ?_
                      show s_Ek (s_rows 3 L xs) 1297 s_e181.1 0 [(0, .int 4), (1, .int 0), (2, .int 5)] [] s_M0 _
                      refine s_ek_bk 8 (P := 15) (ls' := [(0, .int 4), (1, .int 0), (2, .int 5)]) (st' := [.int 1]) (M' := s_M0) rfl ?_
                      refine s_ek_ret (o := some (.int 1)) (fun _ => rfl) ?_
                      show s_Ek (s_rows 3 L xs) 1298 s_e281.1 6 [(0, .int 4)] [.int 1] s_M0 _
                      refine s_ek_ret (o := some (.int 1)) (fun _ => rfl) ?_
                      show s_Ek (s_rows 3 L xs) 1299 s_e287.1 11 [(0, .ref 151), (1, .int 4), (2, .int b), (3, .int 4), (4, .int d), (5, .int e)] [.int 1] s_M0 _
                      refine s_ek_bk 8 (P := 38) (ls' := [(0, .ref 151), (1, .int 4), (2, .int b), (3, .int 4), (4, .int d), (5, .int e)]) (st' := [.int (-11)]) (M' := s_M0) rfl ?_
                      refine s_ek_ret (o := some (.int (-11))) (fun _ => rfl) ?_
                      exact rfl
                    · refine s_ek_bk 6 (P := 33) (ls' := [(0, .ref 0), (1, .int 5)]) (st' := [.ref 149]) (M' := s_M0) rfl ?_
                      refine s_ek_ret (o := some (.ref 149)) (fun _ => rfl) ?_
                      show s_Ek (s_rows 3 L xs) 1299 s_e166.1 28 [(6, .ref 147), (0, .ref 0), (1, .int 4), (2, .int b), (3, .int 5), (4, .int d), (5, .int e)] [.ref 149] s_M0 _
                      refine s_ek_bk 2 (P := 32) (ls' := [(7, .ref 149), (6, .ref 147), (0, .ref 0), (1, .int 4), (2, .int b), (3, .int 5), (4, .int d), (5, .int e)]) (st' := [.ref 147]) (M' := s_M0) rfl ?_
                      refine s_ek_call (ν := s_e84.1) (P := 35) (as := [.ref 147]) (r := []) (fun _ => rfl) rfl ?_
                      show s_Ek (s_rows 3 L xs) 1298 s_e84.1 0 [(0, .ref 147)] [] s_M0 _
                      refine s_ek_bk 6 (P := 13) (ls' := [(0, .ref 147)]) (st' := [.int 1]) (M' := s_M0) rfl ?_
                      refine s_ek_ret (o := some (.int 1)) (fun _ => rfl) ?_
                      show s_Ek (s_rows 3 L xs) 1299 s_e166.1 35 [(7, .ref 149), (6, .ref 147), (0, .ref 0), (1, .int 4), (2, .int b), (3, .int 5), (4, .int d), (5, .int e)] [.int 1] s_M0 _
                      refine s_ek_bk 2 (P := 48) (ls' := [(7, .ref 149), (6, .ref 147), (0, .ref 0), (1, .int 4), (2, .int b), (3, .int 5), (4, .int d), (5, .int e)]) (st' := [.int (-11)]) (M' := s_M0) rfl ?_
                      refine s_ek_ret (o := some (.int (-11))) (fun _ => rfl) ?_
                      refine ⟨(-11), rfl, ?_⟩
                      show s_Ek (s_rows 3 L xs) 1299 s_e287.1 0 [(0, .ref 151), (1, .int 4), (2, .int b), (3, .int 5), (4, .int d), (5, .int e)] [] s_M0 _
                      refine s_ek_bk 1 (P := 1) (ls' := [(0, .ref 151), (1, .int 4), (2, .int b), (3, .int 5), (4, .int d), (5, .int e)]) (st' := [.int 4]) (M' := s_M0) rfl ?_
                      refine s_ek_call (ν := s_e281.1) (P := 4) (as := [.int 4]) (r := []) (fun _ => rfl) rfl ?_
                      show s_Ek (s_rows 3 L xs) 1298 s_e281.1 0 [(0, .int 4)] [] s_M0 _
                      refine s_ek_bk 3 (P := 3) (ls' := [(0, .int 4)]) (st' := [.int 5, .int 0, .int 4]) (M' := s_M0) rfl ?_
                      refine s_ek_call (ν := s_e181.1) (P := 6) (as := [.int 4, .int 0, .int 5]) (r := []) (fun _ => rfl) rfl ?_
                      show s_Ek (s_rows 3 L xs) 1297 s_e181.1 0 [(0, .int 4), (1, .int 0), (2, .int 5)] [] s_M0 _
                      refine s_ek_bk 8 (P := 15) (ls' := [(0, .int 4), (1, .int 0), (2, .int 5)]) (st' := [.int 1]) (M' := s_M0) rfl ?_
                      refine s_ek_ret (o := some (.int 1)) (fun _ => rfl) ?_
                      show s_Ek (s_rows 3 L xs) 1298 s_e281.1 6 [(0, .int 4)] [.int 1] s_M0 _
                      refine s_ek_ret (o := some (.int 1)) (fun _ => rfl) ?_
                      show s_Ek (s_rows 3 L xs) 1299 s_e287.1 4 [(0, .ref 151), (1, .int 4), (2, .int b), (3, .int 5), (4, .int d), (5, .int e)] [.int 1] s_M0 _
                      refine s_ek_bk 2 (P := 8) (ls' := [(0, .ref 151), (1, .int 4), (2, .int b), (3, .int 5), (4, .int d), (5, .int e)]) (st' := [.int 5]) (M' := s_M0) rfl ?_
                      refine s_ek_call (ν := s_e281.1) (P := 11) (as := [.int 5]) (r := []) (fun _ => rfl) rfl ?_
                      show s_Ek (s_rows 3 L xs) 1298 s_e281.1 0 [(0, .int 5)] [] s_M0 _
                      refine s_ek_bk 3 (P := 3) (ls' := [(0, .int 5)]) (st' := [.int 5, .int 0, .int 5]) (M' := s_M0) rfl ?_
                      refine s_ek_call (ν := s_e181.1) (P := 6) (as := [.int 5, .int 0, .int 5]) (r := []) (fun _ => rfl) rfl ?_
                      show s_Ek (s_rows 3 L xs) 1297 s_e181.1 0 [(0, .int 5), (1, .int 0), (2, .int 5)] [] s_M0 _
                      refine s_ek_bk 8 (P := 15) (ls' := [(0, .int 5), (1, .int 0), (2, .int 5)]) (st' := [.int 1]) (M' := s_M0) rfl ?_
                      refine s_ek_ret (o := some (.int 1)) (fun _ => rfl) ?_
                      show s_Ek (s_rows 3 L xs) 1298 s_e281.1 6 [(0, .int 5)] [.int 1] s_M0 _
                      refine s_ek_ret (o := some (.int 1)) (fun _ => rfl) ?_
                      show s_Ek (s_rows 3 L xs) 1299 s_e287.1 11 [(0, .ref 151), (1, .int 4), (2, .int b), (3, .int 5), (4, .int d), (5, .int e)] [.int 1] s_M0 _
                      refine s_ek_bk 8 (P := 38) (ls' := [(0, .ref 151), (1, .int 4), (2, .int b), (3, .int 5), (4, .int d), (5, .int e)]) (st' := [.int (-11)]) (M' := s_M0) rfl ?_
                      refine s_ek_ret (o := some (.int (-11))) (fun _ => rfl) ?_
                      exact rfl
              · refine s_ek_bk 6 (P := 33) (ls' := [(0, .ref 0), (1, .int 5)]) (st' := [.ref 149]) (M' := s_M0) rfl ?_
                refine s_ek_ret (o := some (.ref 149)) (fun _ => rfl) ?_
                show s_Ek (s_rows 3 L xs) 1299 s_e166.1 21 [(0, .ref 0), (1, .int 5), (2, .int b), (3, .int c), (4, .int d), (5, .int e)] [.ref 149] s_M0 _
                refine s_ek_bk 3 (P := 25) (ls' := [(6, .ref 149), (0, .ref 0), (1, .int 5), (2, .int b), (3, .int c), (4, .int d), (5, .int e)]) (st' := [.int c, .ref 0]) (M' := s_M0) rfl ?_
                refine s_ek_call (ν := s_e176.1) (P := 28) (as := [.ref 0, .int c]) (r := []) (fun _ => rfl) rfl ?_
                show s_Ek (s_rows 3 L xs) 1298 s_e176.1 0 [(0, .ref 0), (1, .int c)] [] s_M0 _
                refine s_ek_bk 1 (P := 1) (ls' := [(0, .ref 0), (1, .int c)]) (st' := [.int c]) (M' := s_M0) rfl ?_
                refine s_ek_if1 (T := 22) rfl rfl (fun h7 => ?_) (fun h7 => ?_)
                · replace h7 : c.toInt < 0 := h7
                  omega
                · replace h7 : ¬ (c.toInt < 0) := h7
                  replace h7 : 0 ≤ c.toInt := by omega
                  refine s_ek_bk 4 (P := 10) (ls' := [(0, .ref 0), (1, .int c)]) (st' := [.int 6, .int c]) (M' := s_M0) rfl ?_
                  refine s_ek_if2 (T := 22) rfl rfl (fun h8 => ?_) (fun h8 => ?_)
                  · replace h8 : 6 ≤ c.toInt := h8
                    omega
                  · replace h8 : ¬ (6 ≤ c.toInt) := h8
                    replace h8 : c.toInt < 6 := by omega
                    refine s_ek_bk 3 (P := 18) (ls' := [(0, .ref 0), (1, .int c)]) (st' := [.int c, .ref 135]) (M' := s_M0) rfl ?_
                    rcases s_rg_0_5 (a := c) (by omega) (by omega) with rfl | rfl | rfl | rfl | rfl | rfl
                    · refine s_ek_bk 6 (P := 33) (ls' := [(0, .ref 0), (1, .int 0)]) (st' := [.ref 139]) (M' := s_M0) rfl ?_
                      refine s_ek_ret (o := some (.ref 139)) (fun _ => rfl) ?_
                      show s_Ek (s_rows 3 L xs) 1299 s_e166.1 28 [(6, .ref 149), (0, .ref 0), (1, .int 5), (2, .int b), (3, .int 0), (4, .int d), (5, .int e)] [.ref 139] s_M0 _
                      refine s_ek_bk 2 (P := 32) (ls' := [(7, .ref 139), (6, .ref 149), (0, .ref 0), (1, .int 5), (2, .int b), (3, .int 0), (4, .int d), (5, .int e)]) (st' := [.ref 149]) (M' := s_M0) rfl ?_
                      refine s_ek_call (ν := s_e84.1) (P := 35) (as := [.ref 149]) (r := []) (fun _ => rfl) rfl ?_
                      show s_Ek (s_rows 3 L xs) 1298 s_e84.1 0 [(0, .ref 149)] [] s_M0 _
                      refine s_ek_bk 6 (P := 13) (ls' := [(0, .ref 149)]) (st' := [.int 1]) (M' := s_M0) rfl ?_
                      refine s_ek_ret (o := some (.int 1)) (fun _ => rfl) ?_
                      show s_Ek (s_rows 3 L xs) 1299 s_e166.1 35 [(7, .ref 139), (6, .ref 149), (0, .ref 0), (1, .int 5), (2, .int b), (3, .int 0), (4, .int d), (5, .int e)] [.int 1] s_M0 _
                      refine s_ek_bk 2 (P := 48) (ls' := [(7, .ref 139), (6, .ref 149), (0, .ref 0), (1, .int 5), (2, .int b), (3, .int 0), (4, .int d), (5, .int e)]) (st' := [.int (-11)]) (M' := s_M0) rfl ?_
                      refine s_ek_ret (o := some (.int (-11))) (fun _ => rfl) ?_
                      refine ⟨(-11), rfl, ?_⟩
                      show s_Ek (s_rows 3 L xs) 1299 s_e287.1 0 [(0, .ref 151), (1, .int 5), (2, .int b), (3, .int 0), (4, .int d), (5, .int e)] [] s_M0 _
                      refine s_ek_bk 1 (P := 1) (ls' := [(0, .ref 151), (1, .int 5), (2, .int b), (3, .int 0), (4, .int d), (5, .int e)]) (st' := [.int 5]) (M' := s_M0) rfl ?_
                      refine s_ek_call (ν := s_e281.1) (P := 4) (as := [.int 5]) (r := []) (fun _ => rfl) rfl ?_
                      show s_Ek (s_rows 3 L xs) 1298 s_e281.1 0 [(0, .int 5)] [] s_M0 _
                      refine s_ek_bk 3 (P := 3) (ls' := [(0, .int 5)]) (st' := [.int 5, .int 0, .int 5]) (M' := s_M0) rfl ?_
                      refine s_ek_call (ν := s_e181.1) (P := 6) (as := [.int 5, .int 0, .int 5]) (r := []) (fun _ => rfl) rfl ?_
                      show s_Ek (s_rows 3 L xs) 1297 s_e181.1 0 [(0, .int 5), (1, .int 0), (2, .int 5)] [] s_M0 _
                      refine s_ek_bk 8 (P := 15) (ls' := [(0, .int 5), (1, .int 0), (2, .int 5)]) (st' := [.int 1]) (M' := s_M0) rfl ?_
                      refine s_ek_ret (o := some (.int 1)) (fun _ => rfl) ?_
                      show s_Ek (s_rows 3 L xs) 1298 s_e281.1 6 [(0, .int 5)] [.int 1] s_M0 _
                      refine s_ek_ret (o := some (.int 1)) (fun _ => rfl) ?_
                      show s_Ek (s_rows 3 L xs) 1299 s_e287.1 4 [(0, .ref 151), (1, .int 5), (2, .int b), (3, .int 0), (4, .int d), (5, .int e)] [.int 1] s_M0 _
                      refine s_ek_bk 2 (P := 8) (ls' := [(0, .ref 151), (1, .int 5), (2, .int b), (3, .int 0), (4, .int d), (5, .int e)]) (st' := [.int 0]) (M' := s_M0) rfl ?_
                      refine s_ek_call (ν := s_e281.1) (P := 11) (as := [.int 0]) (r := []) (fun _ => rfl) rfl ?_
                      show s_Ek (s_rows 3 L xs) 1298 s_e281.1 0 [(0, .int 0)] [] s_M0 _
                      refine s_ek_bk 3 (P := 3) (ls' := [(0, .int 0)]) (st' := [.int 5, .int 0, .int 0]) (M' := s_M0) rfl ?_
                      refine s_ek_call (ν := s_e181.1) (P := 6) (as := [.int 0, .int 0, .int 5]) (r := []) (fun _ => rfl) rfl ?_
                      show s_Ek (s_rows 3 L xs) 1297 s_e181.1 0 [(0, .int 0), (1, .int 0), (2, .int 5)] [] s_M0 _
                      refine s_ek_bk 8 (P := 15) (ls' := [(0, .int 0), (1, .int 0), (2, .int 5)]) (st' := [.int 1]) (M' := s_M0) rfl ?_
                      refine s_ek_ret (o := some (.int 1)) (fun _ => rfl) ?_
                      show s_Ek (s_rows 3 L xs) 1298 s_e281.1 6 [(0, .int 0)] [.int 1] s_M0 _
                      refine s_ek_ret (o := some (.int 1)) (fun _ => rfl) ?_
                      show s_Ek (s_rows 3 L xs) 1299 s_e287.1 11 [(0, .ref 151), (1, .int 5), (2, .int b), (3, .int 0), (4, .int d), (5, .int e)] [.int 1] s_M0 _
                      refine s_ek_bk 8 (P := 38) (ls' := [(0, .ref 151), (1, .int 5), (2, .int b), (3, .int 0), (4, .int d), (5, .int e)]) (st' := [.int (-11)]) (M' := s_M0) rfl ?_
                      refine s_ek_ret (o := some (.int (-11))) (fun _ => rfl) ?_
                      exact rfl
                    · refine s_ek_bk 6 (P := 33) (ls' := [(0, .ref 0), (1, .int 1)]) (st' := [.ref 141]) (M' := s_M0) rfl ?_
                      refine s_ek_ret (o := some (.ref 141)) (fun _ => rfl) ?_
                      show s_Ek (s_rows 3 L xs) 1299 s_e166.1 28 [(6, .ref 149), (0, .ref 0), (1, .int 5), (2, .int b), (3, .int 1), (4, .int d), (5, .int e)] [.ref 141] s_M0 _
                      refine s_ek_bk 2 (P := 32) (ls' := [(7, .ref 141), (6, .ref 149), (0, .ref 0), (1, .int 5), (2, .int b), (3, .int 1), (4, .int d), (5, .int e)]) (st' := [.ref 149]) (M' := s_M0) rfl ?_
                      refine s_ek_call (ν := s_e84.1) (P := 35) (as := [.ref 149]) (r := []) (fun _ => rfl) rfl ?_
                      show s_Ek (s_rows 3 L xs) 1298 s_e84.1 0 [(0, .ref 149)] [] s_M0 _
                      refine s_ek_bk 6 (P := 13) (ls' := [(0, .ref 149)]) (st' := [.int 1]) (M' := s_M0) rfl ?_
                      refine s_ek_ret (o := some (.int 1)) (fun _ => rfl) ?_
                      show s_Ek (s_rows 3 L xs) 1299 s_e166.1 35 [(7, .ref 141), (6, .ref 149), (0, .ref 0), (1, .int 5), (2, .int b), (3, .int 1), (4, .int d), (5, .int e)] [.int 1] s_M0 _
                      refine s_ek_bk 2 (P := 48) (ls' := [(7, .ref 141), (6, .ref 149), (0, .ref 0), (1, .int 5), (2, .int b), (3, .int 1), (4, .int d), (5, .int e)]) (st' := [.int (-11)]) (M' := s_M0) rfl ?_
                      refine s_ek_ret (o := some (.int (-11))) (fun _ => rfl) ?_
                      refine ⟨(-11), rfl, ?_⟩
                      show s_Ek (s_rows 3 L xs) 1299 s_e287.1 0 [(0, .ref 151), (1, .int 5), (2, .int b), (3, .int 1), (4, .int d), (5, .int e)] [] s_M0 _
                      refine s_ek_bk 1 (P := 1) (ls' := [(0, .ref 151), (1, .int 5), (2, .int b), (3, .int 1), (4, .int d), (5, .int e)]) (st' := [.int 5]) (M' := s_M0) rfl ?_
                      refine s_ek_call (ν := s_e281.1) (P := 4) (as := [.int 5]) (r := []) (fun _ => rfl) rfl ?_
                      show s_Ek (s_rows 3 L xs) 1298 s_e281.1 0 [(0, .int 5)] [] s_M0 _
                      refine s_ek_bk 3 (P := 3) (ls' := [(0, .int 5)]) (st' := [.int 5, .int 0, .int 5]) (M' := s_M0) rfl ?_
                      refine s_ek_call (ν := s_e181.1) (P := 6) (as := [.int 5, .int 0, .int 5]) (r := []) (fun _ => rfl) rfl ?_
                      show s_Ek (s_rows 3 L xs) 1297 s_e181.1 0 [(0, .int 5), (1, .int 0), (2, .int 5)] [] s_M0 _
                      refine s_ek_bk 8 (P := 15) (ls' := [(0, .int 5), (1, .int 0), (2, .int 5)]) (st' := [.int 1]) (M' := s_M0) rfl ?_
                      refine s_ek_ret (o := some (.int 1)) (fun _ => rfl) ?_
                      show s_Ek (s_rows 3 L xs) 1298 s_e281.1 6 [(0, .int 5)] [.int 1] s_M0 _
                      refine s_ek_ret (o := some (.int 1)) (fun _ => rfl) ?_
                      show s_Ek (s_rows 3 L xs) 1299 s_e287.1 4 [(0, .ref 151), (1, .int 5), (2, .int b), (3, .int 1), (4, .int d), (5, .int e)] [.int 1] s_M0 _
                      refine s_ek_bk 2 (P := 8) (ls' := [(0, .ref 151), (1, .int 5), (2, .int b), (3, .int 1), (4, .int d), (5, .int e)]) (st' := [.int 1]) (M' := s_M0) rfl ?_
                      refine s_ek_call (ν := s_e281.1) (P := 11) (as := [.int 1]) (r := []) (fun _ => rfl) rfl ?_
                      show s_Ek (s_rows 3 L xs) 1298 s_e281.1 0 [(0, .int 1)] [] s_M0 _
                      refine s_ek_bk 3 (P := 3) (ls' := [(0, .int 1)]) (st' := [.int 5, .int 0, .int 1]) (M' := s_M0) rfl ?_
                      refine s_ek_call (ν := s_e181.1) (P := 6) (as := [.int 1, .int 0, .int 5]) (r := []) (fun _ => rfl) rfl ?_
                      show s_Ek (s_rows 3 L xs) 1297 s_e181.1 0 [(0, .int 1), (1, .int 0), (2, .int 5)] [] s_M0 _
                      refine s_ek_bk 8 (P := 15) (ls' := [(0, .int 1), (1, .int 0), (2, .int 5)]) (st' := [.int 1]) (M' := s_M0) rfl ?_
                      refine s_ek_ret (o := some (.int 1)) (fun _ => rfl) ?_
                      show s_Ek (s_rows 3 L xs) 1298 s_e281.1 6 [(0, .int 1)] [.int 1] s_M0 _
                      refine s_ek_ret (o := some (.int 1)) (fun _ => rfl) ?_
                      show s_Ek (s_rows 3 L xs) 1299 s_e287.1 11 [(0, .ref 151), (1, .int 5), (2, .int b), (3, .int 1), (4, .int d), (5, .int e)] [.int 1] s_M0 _
                      refine s_ek_bk 8 (P := 38) (ls' := [(0, .ref 151), (1, .int 5), (2, .int b), (3, .int 1), (4, .int d), (5, .int e)]) (st' := [.int (-11)]) (M' := s_M0) rfl ?_
                      refine s_ek_ret (o := some (.int (-11))) (fun _ => rfl) ?_
                      exact rfl
                    · refine s_ek_bk 6 (P := 33) (ls' := [(0, .ref 0), (1, .int 2)]) (st' := [.ref 143]) (M' := s_M0) rfl ?_
                      refine s_ek_ret (o := some (.ref 143)) (fun _ => rfl) ?_
                      show s_Ek (s_rows 3 L xs) 1299 s_e166.1 28 [(6, .ref 149), (0, .ref 0), (1, .int 5), (2, .int b), (3, .int 2), (4, .int d), (5, .int e)] [.ref 143] s_M0 _
                      refine s_ek_bk 2 (P := 32) (ls' := [(7, .ref 143), (6, .ref 149), (0, .ref 0), (1, .int 5), (2, .int b), (3, .int 2), (4, .int d), (5, .int e)]) (st' := [.ref 149]) (M' := s_M0) rfl ?_
                      refine s_ek_call (ν := s_e84.1) (P := 35) (as := [.ref 149]) (r := []) (fun _ => rfl) rfl ?_
                      show s_Ek (s_rows 3 L xs) 1298 s_e84.1 0 [(0, .ref 149)] [] s_M0 _
                      refine s_ek_bk 6 (P := 13) (ls' := [(0, .ref 149)]) (st' := [.int 1]) (M' := s_M0) rfl ?_
                      refine s_ek_ret (o := some (.int 1)) (fun _ => rfl) ?_
                      show s_Ek (s_rows 3 L xs) 1299 s_e166.1 35 [(7, .ref 143), (6, .ref 149), (0, .ref 0), (1, .int 5), (2, .int b), (3, .int 2), (4, .int d), (5, .int e)] [.int 1] s_M0 _
                      refine s_ek_bk 2 (P := 48) (ls' := [(7, .ref 143), (6, .ref 149), (0, .ref 0), (1, .int 5), (2, .int b), (3, .int 2), (4, .int d), (5, .int e)]) (st' := [.int (-11)]) (M' := s_M0) rfl ?_
                      refine s_ek_ret (o := some (.int (-11))) (fun _ => rfl) ?_
                      refine ⟨(-11), rfl, ?_⟩
                      show s_Ek (s_rows 3 L xs) 1299 s_e287.1 0 [(0, .ref 151), (1, .int 5), (2, .int b), (3, .int 2), (4, .int d), (5, .int e)] [] s_M0 _
                      refine s_ek_bk 1 (P := 1) (ls' := [(0, .ref 151), (1, .int 5), (2, .int b), (3, .int 2), (4, .int d), (5, .int e)]) (st' := [.int 5]) (M' := s_M0) rfl ?_
                      refine s_ek_call (ν := s_e281.1) (P := 4) (as := [.int 5]) (r := []) (fun _ => rfl) rfl ?_
                      show s_Ek (s_rows 3 L xs) 1298 s_e281.1 0 [(0, .int 5)] [] s_M0 _
                      refine s_ek_bk 3 (P := 3) (ls' := [(0, .int 5)]) (st' := [.int 5, .int 0, .int 5]) (M' := s_M0) rfl ?_
                      refine s_ek_call (ν := s_e181.1) (P := 6) (as := [.int 5, .int 0, .int 5]) (r := []) (fun _ => rfl) rfl ?_
                      show s_Ek (s_rows 3 L xs) 1297 s_e181.1 0 [(0, .int 5), (1, .int 0), (2, .int 5)] [] s_M0 _
                      refine s_ek_bk 8 (P := 15) (ls' := [(0, .int 5), (1, .int 0), (2, .int 5)]) (st' := [.int 1]) (M' := s_M0) rfl ?_
                      refine s_ek_ret (o := some (.int 1)) (fun _ => rfl) ?_
                      show s_Ek (s_rows 3 L xs) 1298 s_e281.1 6 [(0, .int 5)] [.int 1] s_M0 _
                      refine s_ek_ret (o := some (.int 1)) (fun _ => rfl) ?_
                      show s_Ek (s_rows 3 L xs) 1299 s_e287.1 4 [(0, .ref 151), (1, .int 5), (2, .int b), (3, .int 2), (4, .int d), (5, .int e)] [.int 1] s_M0 _
                      refine s_ek_bk 2 (P := 8) (ls' := [(0, .ref 151), (1, .int 5), (2, .int b), (3, .int 2), (4, .int d), (5, .int e)]) (st' := [.int 2]) (M' := s_M0) rfl ?_
                      refine s_ek_call (ν := s_e281.1) (P := 11) (as := [.int 2]) (r := []) (fun _ => rfl) rfl ?_
                      show s_Ek (s_rows 3 L xs) 1298 s_e281.1 0 [(0, .int 2)] [] s_M0 _
                      refine s_ek_bk 3 (P := 3) (ls' := [(0, .int 2)]) (st' := [.int 5, .int 0, .int 2]) (M' := s_M0) rfl ?_
                      refine s_ek_call (ν := s_e181.1) (P := 6) (as := [.int 2, .int 0, .int 5]) (r := []) (fun _ => rfl) rfl ?_
                      show s_Ek (s_rows 3 L xs) 1297 s_e181.1 0 [(0, .int 2), (1, .int 0), (2, .int 5)] [] s_M0 _
                      refine s_ek_bk 8 (P := 15) (ls' := [(0, .int 2), (1, .int 0), (2, .int 5)]) (st' := [.int 1]) (M' := s_M0) rfl ?_
                      refine s_ek_ret (o := some (.int 1)) (fun _ => rfl) ?_
                      show s_Ek (s_rows 3 L xs) 1298 s_e281.1 6 [(0, .int 2)] [.int 1] s_M0 _
                      refine s_ek_ret (o := some (.int 1)) (fun _ => rfl) ?_
                      show s_Ek (s_rows 3 L xs) 1299 s_e287.1 11 [(0, .ref 151), (1, .int 5), (2, .int b), (3, .int 2), (4, .int d), (5, .int e)] [.int 1] s_M0 _
                      refine s_ek_bk 8 (P := 38) (ls' := [(0, .ref 151), (1, .int 5), (2, .int b), (3, .int 2), (4, .int d), (5, .int e)]) (st' := [.int (-11)]) (M' := s_M0) rfl ?_
                      refine s_ek_ret (o := some (.int (-11))) (fun _ => rfl) ?_
                      exact rfl
                    · refine s_ek_bk 6 (P := 33) (ls' := [(0, .ref 0), (1, .int 3)]) (st' := [.ref 145]) (M' := s_M0) rfl ?_
                      refine s_ek_ret (o := some (.ref 145)) (fun _ => rfl) ?_
                      show s_Ek (s_rows 3 L xs) 1299 s_e166.1 28 [(6, .ref 149), (0, .ref 0), (1, .int 5), (2, .int b), (3, .int 3), (4, .int d), (5, .int e)] [.ref 145] s_M0 _
                      refine s_ek_bk 2 (P := 32) (ls' := [(7, .ref 145), (6, .ref 149), (0, .ref 0), (1, .int 5), (2, .int b), (3, .int 3), (4, .int d), (5, .int e)]) (st' := [.ref 149]) (M' := s_M0) rfl ?_
                      refine s_ek_call (ν := s_e84.1) (P := 35) (as := [.ref 149]) (r := []) (fun _ => rfl) rfl ?_
                      show s_Ek (s_rows 3 L xs) 1298 s_e84.1 0 [(0, .ref 149)] [] s_M0 _
                      refine s_ek_bk 6 (P := 13) (ls' := [(0, .ref 149)]) (st' := [.int 1]) (M' := s_M0) rfl ?_
                      refine s_ek_ret (o := some (.int 1)) (fun _ => rfl) ?_
                      show s_Ek (s_rows 3 L xs) 1299 s_e166.1 35 [(7, .ref 145), (6, .ref 149), (0, .ref 0), (1, .int 5), (2, .int b), (3, .int 3), (4, .int d), (5, .int e)] [.int 1] s_M0 _
                      refine s_ek_bk 2 (P := 48) (ls' := [(7, .ref 145), (6, .ref 149), (0, .ref 0), (1, .int 5), (2, .int b), (3, .int 3), (4, .int d), (5, .int e)]) (st' := [.int (-11)]) (M' := s_M0) rfl ?_
                      refine s_ek_ret (o := some (.int (-11))) (fun _ => rfl) ?_
                      refine ⟨(-11), rfl, ?_⟩
                      show s_Ek (s_rows 3 L xs) 1299 s_e287.1 0 [(0, .ref 151), (1, .int 5), (2, .int b), (3, .int 3), (4, .int d), (5, .int e)] [] s_M0 _
                      refine s_ek_bk 1 (P := 1) (ls' := [(0, .ref 151), (1, .int 5), (2, .int b), (3, .int 3), (4, .int d), (5, .int e)]) (st' := [.int 5]) (M' := s_M0) rfl ?_
                      refine s_ek_call (ν := s_e281.1) (P := 4) (as := [.int 5]) (r := []) (fun _ => rfl) rfl ?_
                      show s_Ek (s_rows 3 L xs) 1298 s_e281.1 0 [(0, .int 5)] [] s_M0 _
                      refine s_ek_bk 3 (P := 3) (ls' := [(0, .int 5)]) (st' := [.int 5, .int 0, .int 5]) (M' := s_M0) rfl ?_
                      refine s_ek_call (ν := s_e181.1) (P := 6) (as := [.int 5, .int 0, .int 5]) (r := []) (fun _ => rfl) rfl ?_
                      show s_Ek (s_rows 3 L xs) 1297 s_e181.1 0 [(0, .int 5), (1, .int 0), (2, .int 5)] [] s_M0 _
                      refine s_ek_bk 8 (P := 15) (ls' := [(0, .int 5), (1, .int 0), (2, .int 5)]) (st' := [.int 1]) (M' := s_M0) rfl ?_
                      refine s_ek_ret (o := some (.int 1)) (fun _ => rfl) ?_
                      show s_Ek (s_rows 3 L xs) 1298 s_e281.1 6 [(0, .int 5)] [.int 1] s_M0 _
                      refine s_ek_ret (o := some (.int 1)) (fun _ => rfl) ?_
                      show s_Ek (s_rows 3 L xs) 1299 s_e287.1 4 [(0, .ref 151), (1, .int 5), (2, .int b), (3, .int 3), (4, .int d), (5, .int e)] [.int 1] s_M0 _
                      refine s_ek_bk 2 (P := 8) (ls' := [(0, .ref 151), (1, .int 5), (2, .int b), (3, .int 3), (4, .int d), (5, .int e)]) (st' := [.int 3]) (M' := s_M0) rfl ?_
                      refine s_ek_call (ν := s_e281.1) (P := 11) (as := [.int 3]) (r := []) (fun _ => rfl) rfl ?_
                      show s_Ek (s_rows 3 L xs) 1298 s_e281.1 0 [(0, .int 3)] [] s_M0 _
                      refine s_ek_bk 3 (P := 3) (ls' := [(0, .int 3)]) (st' := [.int 5, .int 0, .int 3]) (M' := s_M0) rfl ?_
                      refine s_ek_call (ν := s_e181.1) (P := 6) (as := [.int 3, .int 0, .int 5]) (r := []) (fun _ => rfl) rfl ?_
                      show s_Ek (s_rows 3 L xs) 1297 s_e181.1 0 [(0, .int 3), (1, .int 0), (2, .int 5)] [] s_M0 _
                      refine s_ek_bk 8 (P := 15) (ls' := [(0, .int 3), (1, .int 0), (2, .int 5)]) (st' := [.int 1]) (M' := s_M0) rfl ?_
                      refine s_ek_ret (o := some (.int 1)) (fun _ => rfl) ?_
                      show s_Ek (s_rows 3 L xs) 1298 s_e281.1 6 [(0, .int 3)] [.int 1] s_M0 _
                      refine s_ek_ret (o := some (.int 1)) (fun _ => rfl) ?_
                      show s_Ek (s_rows 3 L xs) 1299 s_e287.1 11 [(0, .ref 151), (1, .int 5), (2, .int b), (3, .int 3), (4, .int d), (5, .int e)] [.int 1] s_M0 _
                      refine s_ek_bk 8 (P := 38) (ls' := [(0, .ref 151), (1, .int 5), (2, .int b), (3, .int 3), (4, .int d), (5, .int e)]) (st' := [.int (-11)]) (M' := s_M0) rfl ?_
                      refine s_ek_ret (o := some (.int (-11))) (fun _ => rfl) ?_
                      exact rfl
                    · refine s_ek_bk 6 (P := 33) (ls' := [(0, .ref 0), (1, .int 4)]) (st' := [.ref 147]) (M' := s_M0) rfl ?_
                      refine s_ek_ret (o := some (.ref 147)) (fun _ => rfl) ?_
                      show s_Ek (s_rows 3 L xs) 1299 s_e166.1 28 [(6, .ref 149), (0, .ref 0), (1, .int 5), (2, .int b), (3, .int 4), (4, .int d), (5, .int e)] [.ref 147] s_M0 _
                      refine s_ek_bk 2 (P := 32) (ls' := [(7, .ref 147), (6, .ref 149), (0, .ref 0), (1, .int 5), (2, .int b), (3, .int 4), (4, .int d), (5, .int e)]) (st' := [.ref 149]) (M' := s_M0) rfl ?_
                      refine s_ek_call (ν := s_e84.1) (P := 35) (as := [.ref 149]) (r := []) (fun _ => rfl) rfl ?_
                      show s_Ek (s_rows 3 L xs) 1298 s_e84.1 0 [(0, .ref 149)] [] s_M0 _
                      refine s_ek_bk 6 (P := 13) (ls' := [(0, .ref 149)]) (st' := [.int 1]) (M' := s_M0) rfl ?_
                      refine s_ek_ret (o := some (.int 1)) (fun _ => rfl) ?_
                      show s_Ek (s_rows 3 L xs) 1299 s_e166.1 35 [(7, .ref 147), (6, .ref 149), (0, .ref 0), (1, .int 5), (2, .int b), (3, .int 4), (4, .int d), (5, .int e)] [.int 1] s_M0 _
                      refine s_ek_bk 2 (P := 48) (ls' := [(7, .ref 147), (6, .ref 149), (0, .ref 0), (1, .int 5), (2, .int b), (3, .int 4), (4, .int d), (5, .int e)]) (st' := [.int (-11)]) (M' := s_M0) rfl ?_
                      refine s_ek_ret (o := some (.int (-11))) (fun _ => rfl) ?_
                      refine ⟨(-11), rfl, ?_⟩
                      show s_Ek (s_rows 3 L xs) 1299 s_e287.1 0 [(0, .ref 151), (1, .int 5), (2, .int b), (3, .int 4), (4, .int d), (5, .int e)] [] s_M0 _
                      refine s_ek_bk 1 (P := 1) (ls' := [(0, .ref 151), (1, .int 5), (2, .int b), (3, .int 4), (4, .int d), (5, .int e)]) (st' := [.int 5]) (M' := s_M0) rfl ?_
                      refine s_ek_call (ν := s_e281.1) (P := 4) (as := [.int 5]) (r := []) (fun _ => rfl) rfl ?_
                      show s_Ek (s_rows 3 L xs) 1298 s_e281.1 0 [(0, .int 5)] [] s_M0 _
                      refine s_ek_bk 3 (P := 3) (ls' := [(0, .int 5)]) (st' := [.int 5, .int 0, .int 5]) (M' := s_M0) rfl ?_
                      refine s_ek_call (ν := s_e181.1) (P := 6) (as := [.int 5, .int 0, .int 5]) (r := []) (fun _ => rfl) rfl ?_
                      show s_Ek (s_rows 3 L xs) 1297 s_e181.1 0 [(0, .int 5), (1, .int 0), (2, .int 5)] [] s_M0 _
                      refine s_ek_bk 8 (P := 15) (ls' := [(0, .int 5), (1, .int 0), (2, .int 5)]) (st' := [.int 1]) (M' := s_M0) rfl ?_
                      refine s_ek_ret (o := some (.int 1)) (fun _ => rfl) ?_
                      show s_Ek (s_rows 3 L xs) 1298 s_e281.1 6 [(0, .int 5)] [.int 1] s_M0 _
                      refine s_ek_ret (o := some (.int 1)) (fun _ => rfl) ?_
                      show s_Ek (s_rows 3 L xs) 1299 s_e287.1 4 [(0, .ref 151), (1, .int 5), (2, .int b), (3, .int 4), (4, .int d), (5, .int e)] [.int 1] s_M0 _
                      refine s_ek_bk 2 (P := 8) (ls' := [(0, .ref 151), (1, .int 5), (2, .int b), (3, .int 4), (4, .int d), (5, .int e)]) (st' := [.int 4]) (M' := s_M0) rfl ?_
                      refine s_ek_call (ν := s_e281.1) (P := 11) (as := [.int 4]) (r := []) (fun _ => rfl) rfl ?_
                      show s_Ek (s_rows 3 L xs) 1298 s_e281.1 0 [(0, .int 4)] [] s_M0 _
                      refine s_ek_bk 3 (P := 3) (ls' := [(0, .int 4)]) (st' := [.int 5, .int 0, .int 4]) (M' := s_M0) rfl ?_
                      refine s_ek_call (ν := s_e181.1) (P := 6) (as := [.int 4, .int 0, .int 5]) (r := []) (fun _ => rfl) rfl ?_
                      show s_Ek (s_rows 3 L xs) 1297 s_e181.1 0 [(0, .int 4), (1, .int 0), (2, .int 5)] [] s_M0 _
                      refine s_ek_bk 8 (P := 15) (ls' := [(0, .int 4), (1, .int 0), (2, .int 5)]) (st' := [.int 1]) (M' := s_M0) rfl ?_
                      refine s_ek_ret (o := some (.int 1)) (fun _ => rfl) ?_
                      show s_Ek (s_rows 3 L xs) 1298 s_e281.1 6 [(0, .int 4)] [.int 1] s_M0 _
                      refine s_ek_ret (o := some (.int 1)) (fun _ => rfl) ?_
                      show s_Ek (s_rows 3 L xs) 1299 s_e287.1 11 [(0, .ref 151), (1, .int 5), (2, .int b), (3, .int 4), (4, .int d), (5, .int e)] [.int 1] s_M0 _
                      refine s_ek_bk 8 (P := 38) (ls' := [(0, .ref 151), (1, .int 5), (2, .int b), (3, .int 4), (4, .int d), (5, .int e)]) (st' := [.int (-11)]) (M' := s_M0) rfl ?_
                      refine s_ek_ret (o := some (.int (-11))) (fun _ => rfl) ?_
                      exact rfl
                    · refine s_ek_bk 6 (P := 33) (ls' := [(0, .ref 0), (1, .int 5)]) (st' := [.ref 149]) (M' := s_M0) rfl ?_
                      refine s_ek_ret (o := some (.ref 149)) (fun _ => rfl) ?_
                      show s_Ek (s_rows 3 L xs) 1299 s_e166.1 28 [(6, .ref 149), (0, .ref 0), (1, .int 5), (2, .int b), (3, .int 5), (4, .int d), (5, .int e)] [.ref 149] s_M0 _
                      refine s_ek_bk 2 (P := 32) (ls' := [(7, .ref 149), (6, .ref 149), (0, .ref 0), (1, .int 5), (2, .int b), (3, .int 5), (4, .int d), (5, .int e)]) (st' := [.ref 149]) (M' := s_M0) rfl ?_
                      refine s_ek_call (ν := s_e84.1) (P := 35) (as := [.ref 149]) (r := []) (fun _ => rfl) rfl ?_
                      show s_Ek (s_rows 3 L xs) 1298 s_e84.1 0 [(0, .ref 149)] [] s_M0 _
                      refine s_ek_bk 6 (P := 13) (ls' := [(0, .ref 149)]) (st' := [.int 1]) (M' := s_M0) rfl ?_
                      refine s_ek_ret (o := some (.int 1)) (fun _ => rfl) ?_
                      show s_Ek (s_rows 3 L xs) 1299 s_e166.1 35 [(7, .ref 149), (6, .ref 149), (0, .ref 0), (1, .int 5), (2, .int b), (3, .int 5), (4, .int d), (5, .int e)] [.int 1] s_M0 _
                      refine s_ek_bk 2 (P := 48) (ls' := [(7, .ref 149), (6, .ref 149), (0, .ref 0), (1, .int 5), (2, .int b), (3, .int 5), (4, .int d), (5, .int e)]) (st' := [.int (-11)]) (M' := s_M0) rfl ?_
                      refine s_ek_ret (o := some (.int (-11))) (fun _ => rfl) ?_
                      refine ⟨(-11), rfl, ?_⟩
                      show s_Ek (s_rows 3 L xs) 1299 s_e287.1 0 [(0, .ref 151), (1, .int 5), (2, .int b), (3, .int 5), (4, .int d), (5, .int e)] [] s_M0 _
                      refine s_ek_bk 1 (P := 1) (ls' := [(0, .ref 151), (1, .int 5), (2, .int b), (3, .int 5), (4, .int d), (5, .int e)]) (st' := [.int 5]) (M' := s_M0) rfl ?_
                      refine s_ek_call (ν := s_e281.1) (P := 4) (as := [.int 5]) (r := []) (fun _ => rfl) rfl ?_
                      show s_Ek (s_rows 3 L xs) 1298 s_e281.1 0 [(0, .int 5)] [] s_M0 _
                      refine s_ek_bk 3 (P := 3) (ls' := [(0, .int 5)]) (st' := [.int 5, .int 0, .int 5]) (M' := s_M0) rfl ?_
                      refine s_ek_call (ν := s_e181.1) (P := 6) (as := [.int 5, .int 0, .int 5]) (r := []) (fun _ => rfl) rfl ?_
                      show s_Ek (s_rows 3 L xs) 1297 s_e181.1 0 [(0, .int 5), (1, .int 0), (2, .int 5)] [] s_M0 _
                      refine s_ek_bk 8 (P := 15) (ls' := [(0, .int 5), (1, .int 0), (2, .int 5)]) (st' := [.int 1]) (M' := s_M0) rfl ?_
                      refine s_ek_ret (o := some (.int 1)) (fun _ => rfl) ?_
                      show s_Ek (s_rows 3 L xs) 1298 s_e281.1 6 [(0, .int 5)] [.int 1] s_M0 _
                      refine s_ek_ret (o := some (.int 1)) (fun _ => rfl) ?_
                      show s_Ek (s_rows 3 L xs) 1299 s_e287.1 4 [(0, .ref 151), (1, .int 5), (2, .int b), (3, .int 5), (4, .int d), (5, .int e)] [.int 1] s_M0 _
                      refine s_ek_bk 2 (P := 8) (ls' := [(0, .ref 151), (1, .int 5), (2, .int b), (3, .int 5), (4, .int d), (5, .int e)]) (st' := [.int 5]) (M' := s_M0) rfl ?_
                      refine s_ek_call (ν := s_e281.1) (P := 11) (as := [.int 5]) (r := []) (fun _ => rfl) rfl ?_
                      show s_Ek (s_rows 3 L xs) 1298 s_e281.1 0 [(0, .int 5)] [] s_M0 _
                      refine s_ek_bk 3 (P := 3) (ls' := [(0, .int 5)]) (st' := [.int 5, .int 0, .int 5]) (M' := s_M0) rfl ?_
                      refine s_ek_call (ν := s_e181.1) (P := 6) (as := [.int 5, .int 0, .int 5]) (r := []) (fun _ => rfl) rfl ?_
                      show s_Ek (s_rows 3 L xs) 1297 s_e181.1 0 [(0, .int 5), (1, .int 0), (2, .int 5)] [] s_M0 _
                      refine s_ek_bk 8 (P := 15) (ls' := [(0, .int 5), (1, .int 0), (2, .int 5)]) (st' := [.int 1]) (M' := s_M0) rfl ?_
                      refine s_ek_ret (o := some (.int 1)) (fun _ => rfl) ?_
                      show s_Ek (s_rows 3 L xs) 1298 s_e281.1 6 [(0, .int 5)] [.int 1] s_M0 _
                      refine s_ek_ret (o := some (.int 1)) (fun _ => rfl) ?_
                      show s_Ek (s_rows 3 L xs) 1299 s_e287.1 11 [(0, .ref 151), (1, .int 5), (2, .int b), (3, .int 5), (4, .int d), (5, .int e)] [.int 1] s_M0 _
                      refine s_ek_bk 8 (P := 38) (ls' := [(0, .ref 151), (1, .int 5), (2, .int b), (3, .int 5), (4, .int d), (5, .int e)]) (st' := [.int (-11)]) (M' := s_M0) rfl ?_
                      refine s_ek_ret (o := some (.int (-11))) (fun _ => rfl) ?_
                      exact rfl
