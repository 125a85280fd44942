/-! the calls on fresh objects: mend -/
set_option maxHeartbeats 20000000 in
set_option maxRecDepth 100000 in
theorem s_op_mend (L : Nat) (xs : Nat → Int32) (a : Int32) (b : Int32) (c : Int32) : s_Ek (s_rows 3 L xs) 1299 s_e138.1 0 (lv_args 0 [.ref 0, .int a, .int b, .int c]) [] s_M0 (fun v M1 => ∃ r : Int32, v = some (.int r) ∧ s_Ek (s_rows 3 L xs) 1299 s_e213.1 0 (lv_args 0 [.ref 151, .int a, .int b, .int c]) [] M1 (fun w _ => w = some (.int r))) := by
  show s_Ek (s_rows 3 L xs) 1299 s_e138.1 0 [(0, .ref 0), (1, .int a), (2, .int b), (3, .int c)] [] s_M0 _
  refine s_ek_bk 4 (P := 4) (ls' := [(0, .ref 0), (1, .int a), (2, .int b), (3, .int c)]) (st' := [.int c, .int b, .int a, .ref 0]) (M' := s_M0) rfl ?_
  refine s_ek_call (ν := s_e139.1) (P := 7) (as := [.ref 0, .int a, .int b, .int c]) (r := []) (fun _ => rfl) rfl ?_
  show s_Ek (s_rows 3 L xs) 1298 s_e139.1 0 [(0, .ref 0), (1, .int a), (2, .int b), (3, .int c)] [] s_M0 _
  refine s_ek_bk 1 (P := 1) (ls' := [(0, .ref 0), (1, .int a), (2, .int b), (3, .int c)]) (st' := [.int b]) (M' := s_M0) rfl ?_
  rcases Int.lt_or_le b.toInt 0 with h1 | h1
  · refine s_ek_tso (T := 142) rfl rfl (by omega) ?_
    refine s_ek_bk 1 (P := 143) (ls' := [(0, .ref 0), (1, .int a), (2, .int b), (3, .int c)]) (st' := [.int 0]) (M' := s_M0) rfl ?_
    refine s_ek_ret (o := some (.int 0)) (fun _ => rfl) ?_
    show s_Ek (s_rows 3 L xs) 1299 s_e138.1 7 [(0, .ref 0), (1, .int a), (2, .int b), (3, .int c)] [.int 0] s_M0 _
    refine s_ek_bk 2 (P := 12) (ls' := [(0, .ref 0), (1, .int a), (2, .int b), (3, .int c)]) (st' := [.int (-2000000000)]) (M' := s_M0) rfl ?_
    refine s_ek_ret (o := some (.int (-2000000000))) (fun _ => rfl) ?_
    refine ⟨(-2000000000), rfl, ?_⟩
    show s_Ek (s_rows 3 L xs) 1299 s_e213.1 0 [(0, .ref 151), (1, .int a), (2, .int b), (3, .int c)] [] s_M0 _
    refine s_ek_bk 1 (P := 1) (ls' := [(0, .ref 151), (1, .int a), (2, .int b), (3, .int c)]) (st' := [.int b]) (M' := s_M0) rfl ?_
    refine s_ek_tso (T := 181) rfl rfl (by omega) ?_
    refine s_ek_bk 1 (P := 183) (ls' := [(0, .ref 151), (1, .int a), (2, .int b), (3, .int c)]) (st' := [.int (-2000000000)]) (M' := s_M0) rfl ?_
    refine s_ek_ret (o := some (.int (-2000000000))) (fun _ => rfl) ?_
    exact rfl
  · rcases Int.lt_or_le 4 b.toInt with h2 | h2
    · refine s_ek_tso (T := 142) rfl rfl (by omega) ?_
      refine s_ek_bk 1 (P := 143) (ls' := [(0, .ref 0), (1, .int a), (2, .int b), (3, .int c)]) (st' := [.int 0]) (M' := s_M0) rfl ?_
      refine s_ek_ret (o := some (.int 0)) (fun _ => rfl) ?_
      show s_Ek (s_rows 3 L xs) 1299 s_e138.1 7 [(0, .ref 0), (1, .int a), (2, .int b), (3, .int c)] [.int 0] s_M0 _
      refine s_ek_bk 2 (P := 12) (ls' := [(0, .ref 0), (1, .int a), (2, .int b), (3, .int c)]) (st' := [.int (-2000000000)]) (M' := s_M0) rfl ?_
      refine s_ek_ret (o := some (.int (-2000000000))) (fun _ => rfl) ?_
      refine ⟨(-2000000000), rfl, ?_⟩
      show s_Ek (s_rows 3 L xs) 1299 s_e213.1 0 [(0, .ref 151), (1, .int a), (2, .int b), (3, .int c)] [] s_M0 _
      refine s_ek_bk 1 (P := 1) (ls' := [(0, .ref 151), (1, .int a), (2, .int b), (3, .int c)]) (st' := [.int b]) (M' := s_M0) rfl ?_
      refine s_ek_tso (T := 181) rfl rfl (by omega) ?_
      refine s_ek_bk 1 (P := 183) (ls' := [(0, .ref 151), (1, .int a), (2, .int b), (3, .int c)]) (st' := [.int (-2000000000)]) (M' := s_M0) rfl ?_
      refine s_ek_ret (o := some (.int (-2000000000))) (fun _ => rfl) ?_
      exact rfl
    · rcases s_rg_0_4 (a := b) (by omega) (by omega) with rfl | rfl | rfl | rfl | rfl
      · refine s_ek_bk 4 (P := 41) (ls' := [(0, .ref 0), (1, .int a), (2, .int 0), (3, .int c)]) (st' := [.int a, .ref 8]) (M' := s_M0) rfl ?_
        refine s_ek_call (ν := s_e40.1) (P := 44) (as := [.ref 8, .int a]) (r := []) (fun _ => rfl) rfl ?_
        show s_Ek (s_rows 3 L xs) 1297 s_e40.1 0 [(0, .ref 8), (1, .int a)] [] s_M0 _
        refine s_ek_bk 1 (P := 1) (ls' := [(0, .ref 8), (1, .int a)]) (st' := [.int a]) (M' := s_M0) rfl ?_
        refine s_ek_if1 (T := 16) rfl rfl (fun h3 => ?_) (fun h3 => ?_)
        · replace h3 : a.toInt < 0 := h3
          refine s_ek_bk 1 (P := 17) (ls' := [(0, .ref 8), (1, .int a)]) (st' := [.int 0]) (M' := s_M0) rfl ?_
          refine s_ek_ret (o := some (.int 0)) (fun _ => rfl) ?_
          show s_Ek (s_rows 3 L xs) 1298 s_e139.1 44 [(0, .ref 0), (1, .int a), (2, .int 0), (3, .int c)] [.int 0] s_M0 _
          refine s_ek_bk 2 (P := 59) (ls' := [(0, .ref 0), (1, .int a), (2, .int 0), (3, .int c)]) (st' := [.int 0]) (M' := s_M0) rfl ?_
          refine s_ek_ret (o := some (.int 0)) (fun _ => rfl) ?_
          show s_Ek (s_rows 3 L xs) 1299 s_e138.1 7 [(0, .ref 0), (1, .int a), (2, .int 0), (3, .int c)] [.int 0] s_M0 _
          refine s_ek_bk 2 (P := 12) (ls' := [(0, .ref 0), (1, .int a), (2, .int 0), (3, .int c)]) (st' := [.int (-2000000000)]) (M' := s_M0) rfl ?_
          refine s_ek_ret (o := some (.int (-2000000000))) (fun _ => rfl) ?_
          refine ⟨(-2000000000), rfl, ?_⟩
          show s_Ek (s_rows 3 L xs) 1299 s_e213.1 0 [(0, .ref 151), (1, .int a), (2, .int 0), (3, .int c)] [] s_M0 _
          refine s_ek_bk 4 (P := 38) (ls' := [(0, .ref 151), (1, .int a), (2, .int 0), (3, .int c)]) (st' := [.int a, .ref 151]) (M' := s_M0) rfl ?_
          refine s_ek_call (ν := s_e201.1) (P := 41) (as := [.ref 151, .int a]) (r := []) (fun _ => rfl) rfl ?_
          show s_Ek (s_rows 3 L xs) 1298 s_e201.1 0 [(0, .ref 151), (1, .int a)] [] s_M0 _
          refine s_ek_bk 6 (P := 8) (ls' := [(0, .ref 151), (1, .int a)]) (st' := [.int (-1), .int 0, .int a]) (M' := s_M0) rfl ?_
          refine s_ek_call (ν := s_e181.1) (P := 11) (as := [.int a, .int 0, .int (-1)]) (r := []) (fun _ => rfl) rfl ?_
          show s_Ek (s_rows 3 L xs) 1297 s_e181.1 0 [(0, .int a), (1, .int 0), (2, .int (-1))] [] s_M0 _
          refine s_ek_bk 2 (P := 2) (ls' := [(0, .int a), (1, .int 0), (2, .int (-1))]) (st' := [.int 0, .int a]) (M' := s_M0) rfl ?_
          refine s_ek_if2 (T := 14) rfl rfl (fun h4 => ?_) (fun h4 => ?_)
          · replace h4 : a.toInt < 0 := h4
            refine s_ek_bk 1 (P := 15) (ls' := [(0, .int a), (1, .int 0), (2, .int (-1))]) (st' := [.int 0]) (M' := s_M0) rfl ?_
            refine s_ek_ret (o := some (.int 0)) (fun _ => rfl) ?_
            show s_Ek (s_rows 3 L xs) 1298 s_e201.1 11 [(0, .ref 151), (1, .int a)] [.int 0] s_M0 _
            refine s_ek_ret (o := some (.int 0)) (fun _ => rfl) ?_
            show s_Ek (s_rows 3 L xs) 1299 s_e213.1 41 [(0, .ref 151), (1, .int a), (2, .int 0), (3, .int c)] [.int 0] s_M0 _
            refine s_ek_bk 2 (P := 66) (ls' := [(0, .ref 151), (1, .int a), (2, .int 0), (3, .int c)]) (st' := [.int (-2000000000)]) (M' := s_M0) rfl ?_
            refine s_ek_ret (o := some (.int (-2000000000))) (fun _ => rfl) ?_
            exact rfl
          · replace h4 : ¬ (a.toInt < 0) := h4
            replace h4 : 0 ≤ a.toInt := by omega
            omega
        · replace h3 : ¬ (a.toInt < 0) := h3
          replace h3 : 0 ≤ a.toInt := by omega
          refine s_ek_bk 3 (P := 9) (ls' := [(0, .ref 8), (1, .int a)]) (st' := [.int 0, .int a]) (M' := s_M0) rfl ?_
          refine s_ek_if2 (T := 16) rfl rfl (fun h4 => ?_) (fun h4 => ?_)
          · replace h4 : 0 ≤ a.toInt := h4
            refine s_ek_bk 1 (P := 17) (ls' := [(0, .ref 8), (1, .int a)]) (st' := [.int 0]) (M' := s_M0) rfl ?_
            refine s_ek_ret (o := some (.int 0)) (fun _ => rfl) ?_
            show s_Ek (s_rows 3 L xs) 1298 s_e139.1 44 [(0, .ref 0), (1, .int a), (2, .int 0), (3, .int c)] [.int 0] s_M0 _
            refine s_ek_bk 2 (P := 59) (ls' := [(0, .ref 0), (1, .int a), (2, .int 0), (3, .int c)]) (st' := [.int 0]) (M' := s_M0) rfl ?_
            refine s_ek_ret (o := some (.int 0)) (fun _ => rfl) ?_
            show s_Ek (s_rows 3 L xs) 1299 s_e138.1 7 [(0, .ref 0), (1, .int a), (2, .int 0), (3, .int c)] [.int 0] s_M0 _
            refine s_ek_bk 2 (P := 12) (ls' := [(0, .ref 0), (1, .int a), (2, .int 0), (3, .int c)]) (st' := [.int (-2000000000)]) (M' := s_M0) rfl ?_
            refine s_ek_ret (o := some (.int (-2000000000))) (fun _ => rfl) ?_
            refine ⟨(-2000000000), rfl, ?_⟩
            show s_Ek (s_rows 3 L xs) 1299 s_e213.1 0 [(0, .ref 151), (1, .int a), (2, .int 0), (3, .int c)] [] s_M0 _
            refine s_ek_bk 4 (P := 38) (ls' := [(0, .ref 151), (1, .int a), (2, .int 0), (3, .int c)]) (st' := [.int a, .ref 151]) (M' := s_M0) rfl ?_
            refine s_ek_call (ν := s_e201.1) (P := 41) (as := [.ref 151, .int a]) (r := []) (fun _ => rfl) rfl ?_
            show s_Ek (s_rows 3 L xs) 1298 s_e201.1 0 [(0, .ref 151), (1, .int a)] [] s_M0 _
            refine s_ek_bk 6 (P := 8) (ls' := [(0, .ref 151), (1, .int a)]) (st' := [.int (-1), .int 0, .int a]) (M' := s_M0) rfl ?_
            refine s_ek_call (ν := s_e181.1) (P := 11) (as := [.int a, .int 0, .int (-1)]) (r := []) (fun _ => rfl) rfl ?_
            show s_Ek (s_rows 3 L xs) 1297 s_e181.1 0 [(0, .int a), (1, .int 0), (2, .int (-1))] [] s_M0 _
            refine s_ek_bk 2 (P := 2) (ls' := [(0, .int a), (1, .int 0), (2, .int (-1))]) (st' := [.int 0, .int a]) (M' := s_M0) rfl ?_
            refine s_ek_if2 (T := 14) rfl rfl (fun h5 => ?_) (fun h5 => ?_)
            · replace h5 : a.toInt < 0 := h5
              omega
            · replace h5 : ¬ (a.toInt < 0) := h5
              replace h5 : 0 ≤ a.toInt := by omega
              refine s_ek_bk 2 (P := 7) (ls' := [(0, .int a), (1, .int 0), (2, .int (-1))]) (st' := [.int (-1), .int a]) (M' := s_M0) rfl ?_
              refine s_ek_if2 (T := 14) rfl rfl (fun h6 => ?_) (fun h6 => ?_)
              · replace h6 : (-1) < a.toInt := h6
                refine s_ek_bk 1 (P := 15) (ls' := [(0, .int a), (1, .int 0), (2, .int (-1))]) (st' := [.int 0]) (M' := s_M0) rfl ?_
                refine s_ek_ret (o := some (.int 0)) (fun _ => rfl) ?_
                show s_Ek (s_rows 3 L xs) 1298 s_e201.1 11 [(0, .ref 151), (1, .int a)] [.int 0] s_M0 _
                refine s_ek_ret (o := some (.int 0)) (fun _ => rfl) ?_
                show s_Ek (s_rows 3 L xs) 1299 s_e213.1 41 [(0, .ref 151), (1, .int a), (2, .int 0), (3, .int c)] [.int 0] s_M0 _
                refine s_ek_bk 2 (P := 66) (ls' := [(0, .ref 151), (1, .int a), (2, .int 0), (3, .int c)]) (st' := [.int (-2000000000)]) (M' := s_M0) rfl ?_
                refine s_ek_ret (o := some (.int (-2000000000))) (fun _ => rfl) ?_
                exact rfl
              · replace h6 : ¬ ((-1) < a.toInt) := h6
                replace h6 : a.toInt ≤ (-1) := by omega
                omega
          · replace h4 : ¬ (0 ≤ a.toInt) := h4
            replace h4 : a.toInt < 0 := by omega
            omega
      · refine s_ek_bk 4 (P := 65) (ls' := [(0, .ref 0), (1, .int a), (2, .int 1), (3, .int c)]) (st' := [.int a, .ref 8]) (M' := s_M0) rfl ?_
        refine s_ek_call (ν := s_e40.1) (P := 68) (as := [.ref 8, .int a]) (r := []) (fun _ => rfl) rfl ?_
        show s_Ek (s_rows 3 L xs) 1297 s_e40.1 0 [(0, .ref 8), (1, .int a)] [] s_M0 _
        refine s_ek_bk 1 (P := 1) (ls' := [(0, .ref 8), (1, .int a)]) (st' := [.int a]) (M' := s_M0) rfl ?_
        refine s_ek_if1 (T := 16) rfl rfl (fun h3 => ?_) (fun h3 => ?_)
        · replace h3 : a.toInt < 0 := h3
          refine s_ek_bk 1 (P := 17) (ls' := [(0, .ref 8), (1, .int a)]) (st' := [.int 0]) (M' := s_M0) rfl ?_
          refine s_ek_ret (o := some (.int 0)) (fun _ => rfl) ?_
          show s_Ek (s_rows 3 L xs) 1298 s_e139.1 68 [(0, .ref 0), (1, .int a), (2, .int 1), (3, .int c)] [.int 0] s_M0 _
          refine s_ek_bk 2 (P := 83) (ls' := [(0, .ref 0), (1, .int a), (2, .int 1), (3, .int c)]) (st' := [.int 0]) (M' := s_M0) rfl ?_
          refine s_ek_ret (o := some (.int 0)) (fun _ => rfl) ?_
          show s_Ek (s_rows 3 L xs) 1299 s_e138.1 7 [(0, .ref 0), (1, .int a), (2, .int 1), (3, .int c)] [.int 0] s_M0 _
          refine s_ek_bk 2 (P := 12) (ls' := [(0, .ref 0), (1, .int a), (2, .int 1), (3, .int c)]) (st' := [.int (-2000000000)]) (M' := s_M0) rfl ?_
          refine s_ek_ret (o := some (.int (-2000000000))) (fun _ => rfl) ?_
          refine ⟨(-2000000000), rfl, ?_⟩
          show s_Ek (s_rows 3 L xs) 1299 s_e213.1 0 [(0, .ref 151), (1, .int a), (2, .int 1), (3, .int c)] [] s_M0 _
          refine s_ek_bk 4 (P := 69) (ls' := [(0, .ref 151), (1, .int a), (2, .int 1), (3, .int c)]) (st' := [.int a, .ref 151]) (M' := s_M0) rfl ?_
          refine s_ek_call (ν := s_e201.1) (P := 72) (as := [.ref 151, .int a]) (r := []) (fun _ => rfl) rfl ?_
          show s_Ek (s_rows 3 L xs) 1298 s_e201.1 0 [(0, .ref 151), (1, .int a)] [] s_M0 _
          refine s_ek_bk 6 (P := 8) (ls' := [(0, .ref 151), (1, .int a)]) (st' := [.int (-1), .int 0, .int a]) (M' := s_M0) rfl ?_
          refine s_ek_call (ν := s_e181.1) (P := 11) (as := [.int a, .int 0, .int (-1)]) (r := []) (fun _ => rfl) rfl ?_
          show s_Ek (s_rows 3 L xs) 1297 s_e181.1 0 [(0, .int a), (1, .int 0), (2, .int (-1))] [] s_M0 _
          refine s_ek_bk 2 (P := 2) (ls' := [(0, .int a), (1, .int 0), (2, .int (-1))]) (st' := [.int 0, .int a]) (M' := s_M0) rfl ?_
          refine s_ek_if2 (T := 14) rfl rfl (fun h4 => ?_) (fun h4 => ?_)
          · replace h4 : a.toInt < 0 := h4
            refine s_ek_bk 1 (P := 15) (ls' := [(0, .int a), (1, .int 0), (2, .int (-1))]) (st' := [.int 0]) (M' := s_M0) rfl ?_
            refine s_ek_ret (o := some (.int 0)) (fun _ => rfl) ?_
            show s_Ek (s_rows 3 L xs) 1298 s_e201.1 11 [(0, .ref 151), (1, .int a)] [.int 0] s_M0 _
            refine s_ek_ret (o := some (.int 0)) (fun _ => rfl) ?_
            show s_Ek (s_rows 3 L xs) 1299 s_e213.1 72 [(0, .ref 151), (1, .int a), (2, .int 1), (3, .int c)] [.int 0] s_M0 _
            refine s_ek_bk 2 (P := 96) (ls' := [(0, .ref 151), (1, .int a), (2, .int 1), (3, .int c)]) (st' := [.int (-2000000000)]) (M' := s_M0) rfl ?_
            refine s_ek_ret (o := some (.int (-2000000000))) (fun _ => rfl) ?_
            exact rfl
          · replace h4 : ¬ (a.toInt < 0) := h4
            replace h4 : 0 ≤ a.toInt := by omega
            omega
        · replace h3 : ¬ (a.toInt < 0) := h3
          replace h3 : 0 ≤ a.toInt := by omega
          refine s_ek_bk 3 (P := 9) (ls' := [(0, .ref 8), (1, .int a)]) (st' := [.int 0, .int a]) (M' := s_M0) rfl ?_
          refine s_ek_if2 (T := 16) rfl rfl (fun h4 => ?_) (fun h4 => ?_)
          · replace h4 : 0 ≤ a.toInt := h4
            refine s_ek_bk 1 (P := 17) (ls' := [(0, .ref 8), (1, .int a)]) (st' := [.int 0]) (M' := s_M0) rfl ?_
            refine s_ek_ret (o := some (.int 0)) (fun _ => rfl) ?_
            show s_Ek (s_rows 3 L xs) 1298 s_e139.1 68 [(0, .ref 0), (1, .int a), (2, .int 1), (3, .int c)] [.int 0] s_M0 _
            refine s_ek_bk 2 (P := 83) (ls' := [(0, .ref 0), (1, .int a), (2, .int 1), (3, .int c)]) (st' := [.int 0]) (M' := s_M0) rfl ?_
            refine s_ek_ret (o := some (.int 0)) (fun _ => rfl) ?_
            show s_Ek (s_rows 3 L xs) 1299 s_e138.1 7 [(0, .ref 0), (1, .int a), (2, .int 1), (3, .int c)] [.int 0] s_M0 _
            refine s_ek_bk 2 (P := 12) (ls' := [(0, .ref 0), (1, .int a), (2, .int 1), (3, .int c)]) (st' := [.int (-2000000000)]) (M' := s_M0) rfl ?_
            refine s_ek_ret (o := some (.int (-2000000000))) (fun _ => rfl) ?_
            refine ⟨(-2000000000), rfl, ?_⟩
            show s_Ek (s_rows 3 L xs) 1299 s_e213.1 0 [(0, .ref 151), (1, .int a), (2, .int 1), (3, .int c)] [] s_M0 _
            refine s_ek_bk 4 (P := 69) (ls' := [(0, .ref 151), (1, .int a), (2, .int 1), (3, .int c)]) (st' := [.int a, .ref 151]) (M' := s_M0) rfl ?_
            refine s_ek_call (ν := s_e201.1) (P := 72) (as := [.ref 151, .int a]) (r := []) (fun _ => rfl) rfl ?_
            show s_Ek (s_rows 3 L xs) 1298 s_e201.1 0 [(0, .ref 151), (1, .int a)] [] s_M0 _
            refine s_ek_bk 6 (P := 8) (ls' := [(0, .ref 151), (1, .int a)]) (st' := [.int (-1), .int 0, .int a]) (M' := s_M0) rfl ?_
            refine s_ek_call (ν := s_e181.1) (P := 11) (as := [.int a, .int 0, .int (-1)]) (r := []) (fun _ => rfl) rfl ?_
            show s_Ek (s_rows 3 L xs) 1297 s_e181.1 0 [(0, .int a), (1, .int 0), (2, .int (-1))] [] s_M0 _
            refine s_ek_bk 2 (P := 2) (ls' := [(0, .int a), (1, .int 0), (2, .int (-1))]) (st' := [.int 0, .int a]) (M' := s_M0) rfl ?_
            refine s_ek_if2 (T := 14) rfl rfl (fun h5 => ?_) (fun h5 => ?_)
            · replace h5 : a.toInt < 0 := h5
              omega
            · replace h5 : ¬ (a.toInt < 0) := h5
              replace h5 : 0 ≤ a.toInt := by omega
              refine s_ek_bk 2 (P := 7) (ls' := [(0, .int a), (1, .int 0), (2, .int (-1))]) (st' := [.int (-1), .int a]) (M' := s_M0) rfl ?_
              refine s_ek_if2 (T := 14) rfl rfl (fun h6 => ?_) (fun h6 => ?_)
              · replace h6 : (-1) < a.toInt := h6
                refine s_ek_bk 1 (P := 15) (ls' := [(0, .int a), (1, .int 0), (2, .int (-1))]) (st' := [.int 0]) (M' := s_M0) rfl ?_
                refine s_ek_ret (o := some (.int 0)) (fun _ => rfl) ?_
                show s_Ek (s_rows 3 L xs) 1298 s_e201.1 11 [(0, .ref 151), (1, .int a)] [.int 0] s_M0 _
                refine s_ek_ret (o := some (.int 0)) (fun _ => rfl) ?_
                show s_Ek (s_rows 3 L xs) 1299 s_e213.1 72 [(0, .ref 151), (1, .int a), (2, .int 1), (3, .int c)] [.int 0] s_M0 _
                refine s_ek_bk 2 (P := 96) (ls' := [(0, .ref 151), (1, .int a), (2, .int 1), (3, .int c)]) (st' := [.int (-2000000000)]) (M' := s_M0) rfl ?_
                refine s_ek_ret (o := some (.int (-2000000000))) (fun _ => rfl) ?_
                exact rfl
              · replace h6 : ¬ ((-1) < a.toInt) := h6
                replace h6 : a.toInt ≤ (-1) := by omega
                omega
          · replace h4 : ¬ (0 ≤ a.toInt) := h4
            replace h4 : a.toInt < 0 := by omega
            omega
      · refine s_ek_bk 4 (P := 89) (ls' := [(0, .ref 0), (1, .int a), (2, .int 2), (3, .int c)]) (st' := [.int a, .ref 8]) (M' := s_M0) rfl ?_
        refine s_ek_call (ν := s_e40.1) (P := 92) (as := [.ref 8, .int a]) (r := []) (fun _ => rfl) rfl ?_
        show s_Ek (s_rows 3 L xs) 1297 s_e40.1 0 [(0, .ref 8), (1, .int a)] [] s_M0 _
        refine s_ek_bk 1 (P := 1) (ls' := [(0, .ref 8), (1, .int a)]) (st' := [.int a]) (M' := s_M0) rfl ?_
        refine s_ek_if1 (T := 16) rfl rfl (fun h3 => ?_) (fun h3 => ?_)
        · replace h3 : a.toInt < 0 := h3
          refine s_ek_bk 1 (P := 17) (ls' := [(0, .ref 8), (1, .int a)]) (st' := [.int 0]) (M' := s_M0) rfl ?_
          refine s_ek_ret (o := some (.int 0)) (fun _ => rfl) ?_
          show s_Ek (s_rows 3 L xs) 1298 s_e139.1 92 [(0, .ref 0), (1, .int a), (2, .int 2), (3, .int c)] [.int 0] s_M0 _
          refine s_ek_bk 2 (P := 107) (ls' := [(0, .ref 0), (1, .int a), (2, .int 2), (3, .int c)]) (st' := [.int 0]) (M' := s_M0) rfl ?_
          refine s_ek_ret (o := some (.int 0)) (fun _ => rfl) ?_
          show s_Ek (s_rows 3 L xs) 1299 s_e138.1 7 [(0, .ref 0), (1, .int a), (2, .int 2), (3, .int c)] [.int 0] s_M0 _
          refine s_ek_bk 2 (P := 12) (ls' := [(0, .ref 0), (1, .int a), (2, .int 2), (3, .int c)]) (st' := [.int (-2000000000)]) (M' := s_M0) rfl ?_
          refine s_ek_ret (o := some (.int (-2000000000))) (fun _ => rfl) ?_
          refine ⟨(-2000000000), rfl, ?_⟩
          show s_Ek (s_rows 3 L xs) 1299 s_e213.1 0 [(0, .ref 151), (1, .int a), (2, .int 2), (3, .int c)] [] s_M0 _
          refine s_ek_bk 4 (P := 99) (ls' := [(0, .ref 151), (1, .int a), (2, .int 2), (3, .int c)]) (st' := [.int a, .ref 151]) (M' := s_M0) rfl ?_
          refine s_ek_call (ν := s_e201.1) (P := 102) (as := [.ref 151, .int a]) (r := []) (fun _ => rfl) rfl ?_
          show s_Ek (s_rows 3 L xs) 1298 s_e201.1 0 [(0, .ref 151), (1, .int a)] [] s_M0 _
          refine s_ek_bk 6 (P := 8) (ls' := [(0, .ref 151), (1, .int a)]) (st' := [.int (-1), .int 0, .int a]) (M' := s_M0) rfl ?_
          refine s_ek_call (ν := s_e181.1) (P := 11) (as := [.int a, .int 0, .int (-1)]) (r := []) (fun _ => rfl) rfl ?_
          show s_Ek (s_rows 3 L xs) 1297 s_e181.1 0 [(0, .int a), (1, .int 0), (2, .int (-1))] [] s_M0 _
          refine s_ek_bk 2 (P := 2) (ls' := [(0, .int a), (1, .int 0), (2, .int (-1))]) (st' := [.int 0, .int a]) (M' := s_M0) rfl ?_
          refine s_ek_if2 (T := 14) rfl rfl (fun h4 => ?_) (fun h4 => ?_)
          · replace h4 : a.toInt < 0 := h4
            refine s_ek_bk 1 (P := 15) (ls' := [(0, .int a), (1, .int 0), (2, .int (-1))]) (st' := [.int 0]) (M' := s_M0) rfl ?_
            refine s_ek_ret (o := some (.int 0)) (fun _ => rfl) ?_
            show s_Ek (s_rows 3 L xs) 1298 s_e201.1 11 [(0, .ref 151), (1, .int a)] [.int 0] s_M0 _
            refine s_ek_ret (o := some (.int 0)) (fun _ => rfl) ?_
            show s_Ek (s_rows 3 L xs) 1299 s_e213.1 102 [(0, .ref 151), (1, .int a), (2, .int 2), (3, .int c)] [.int 0] s_M0 _
            refine s_ek_bk 2 (P := 127) (ls' := [(0, .ref 151), (1, .int a), (2, .int 2), (3, .int c)]) (st' := [.int (-2000000000)]) (M' := s_M0) rfl ?_
            refine s_ek_ret (o := some (.int (-2000000000))) (fun _ => rfl) ?_
            exact rfl
          · replace h4 : ¬ (a.toInt < 0) := h4
            replace h4 : 0 ≤ a.toInt := by omega
            omega
        · replace h3 : ¬ (a.toInt < 0) := h3
          replace h3 : 0 ≤ a.toInt := by omega
          refine s_ek_bk 3 (P := 9) (ls' := [(0, .ref 8), (1, .int a)]) (st' := [.int 0, .int a]) (M' := s_M0) rfl ?_
          refine s_ek_if2 (T := 16) rfl rfl (fun h4 => ?_) (fun h4 => ?_)
          · replace h4 : 0 ≤ a.toInt := h4
            refine s_ek_bk 1 (P := 17) (ls' := [(0, .ref 8), (1, .int a)]) (st' := [.int 0]) (M' := s_M0) rfl ?_
            refine s_ek_ret (o := some (.int 0)) (fun _ => rfl) ?_
            show s_Ek (s_rows 3 L xs) 1298 s_e139.1 92 [(0, .ref 0), (1, .int a), (2, .int 2), (3, .int c)] [.int 0] s_M0 _
            refine s_ek_bk 2 (P := 107) (ls' := [(0, .ref 0), (1, .int a), (2, .int 2), (3, .int c)]) (st' := [.int 0]) (M' := s_M0) rfl ?_
            refine s_ek_ret (o := some (.int 0)) (fun _ => rfl) ?_
            show s_Ek (s_rows 3 L xs) 1299 s_e138.1 7 [(0, .ref 0), (1, .int a), (2, .int 2), (3, .int c)] [.int 0] s_M0 _
            refine s_ek_bk 2 (P := 12) (ls' := [(0, .ref 0), (1, .int a), (2, .int 2), (3, .int c)]) (st' := [.int (-2000000000)]) (M' := s_M0) rfl ?_
            refine s_ek_ret (o := some (.int (-2000000000))) (fun _ => rfl) ?_
            refine ⟨(-2000000000), rfl, ?_⟩
            show s_Ek (s_rows 3 L xs) 1299 s_e213.1 0 [(0, .ref 151), (1, .int a), (2, .int 2), (3, .int c)] [] s_M0 _
            refine s_ek_bk 4 (P := 99) (ls' := [(0, .ref 151), (1, .int a), (2, .int 2), (3, .int c)]) (st' := [.int a, .ref 151]) (M' := s_M0) rfl ?_
            refine s_ek_call (ν := s_e201.1) (P := 102) (as := [.ref 151, .int a]) (r := []) (fun _ => rfl) rfl ?_
            show s_Ek (s_rows 3 L xs) 1298 s_e201.1 0 [(0, .ref 151), (1, .int a)] [] s_M0 _
            refine s_ek_bk 6 (P := 8) (ls' := [(0, .ref 151), (1, .int a)]) (st' := [.int (-1), .int 0, .int a]) (M' := s_M0) rfl ?_
            refine s_ek_call (ν := s_e181.1) (P := 11) (as := [.int a, .int 0, .int (-1)]) (r := []) (fun _ => rfl) rfl ?_
            show s_Ek (s_rows 3 L xs) 1297 s_e181.1 0 [(0, .int a), (1, .int 0), (2, .int (-1))] [] s_M0 _
            refine s_ek_bk 2 (P := 2) (ls' := [(0, .int a), (1, .int 0), (2, .int (-1))]) (st' := [.int 0, .int a]) (M' := s_M0) rfl ?_
            refine s_ek_if2 (T := 14) rfl rfl (fun h5 => ?_) (fun h5 => ?_)
            · replace h5 : a.toInt < 0 := h5
              omega
            · replace h5 : ¬ (a.toInt < 0) := h5
              replace h5 : 0 ≤ a.toInt := by omega
              refine s_ek_bk 2 (P := 7) (ls' := [(0, .int a), (1, .int 0), (2, .int (-1))]) (st' := [.int (-1), .int a]) (M' := s_M0) rfl ?_
              refine s_ek_if2 (T := 14) rfl rfl (fun h6 => ?_) (fun h6 => ?_)
              · replace h6 : (-1) < a.toInt := h6
                refine s_ek_bk 1 (P := 15) (ls' := [(0, .int a), (1, .int 0), (2, .int (-1))]) (st' := [.int 0]) (M' := s_M0) rfl ?_
                refine s_ek_ret (o := some (.int 0)) (fun _ => rfl) ?_
                show s_Ek (s_rows 3 L xs) 1298 s_e201.1 11 [(0, .ref 151), (1, .int a)] [.int 0] s_M0 _
                refine s_ek_ret (o := some (.int 0)) (fun _ => rfl) ?_
                show s_Ek (s_rows 3 L xs) 1299 s_e213.1 102 [(0, .ref 151), (1, .int a), (2, .int 2), (3, .int c)] [.int 0] s_M0 _
                refine s_ek_bk 2 (P := 127) (ls' := [(0, .ref 151), (1, .int a), (2, .int 2), (3, .int c)]) (st' := [.int (-2000000000)]) (M' := s_M0) rfl ?_
                refine s_ek_ret (o := some (.int (-2000000000))) (fun _ => rfl) ?_
                exact rfl
              · replace h6 : ¬ ((-1) < a.toInt) := h6
                replace h6 : a.toInt ≤ (-1) := by omega
                omega
          · replace h4 : ¬ (0 ≤ a.toInt) := h4
            replace h4 : a.toInt < 0 := by omega
            omega
      · refine s_ek_bk 2 (P := 109) (ls' := [(0, .ref 0), (1, .int a), (2, .int 3), (3, .int c)]) (st' := [.int a]) (M' := s_M0) rfl ?_
        refine s_ek_if1 (T := 123) rfl rfl (fun h3 => ?_) (fun h3 => ?_)
        · replace h3 : ¬ a.toInt = 0 := h3
          refine s_ek_bk 1 (P := 124) (ls' := [(0, .ref 0), (1, .int a), (2, .int 3), (3, .int c)]) (st' := [.int 0]) (M' := s_M0) rfl ?_
          refine s_ek_ret (o := some (.int 0)) (fun _ => rfl) ?_
          show s_Ek (s_rows 3 L xs) 1299 s_e138.1 7 [(0, .ref 0), (1, .int a), (2, .int 3), (3, .int c)] [.int 0] s_M0 _
          refine s_ek_bk 2 (P := 12) (ls' := [(0, .ref 0), (1, .int a), (2, .int 3), (3, .int c)]) (st' := [.int (-2000000000)]) (M' := s_M0) rfl ?_
          refine s_ek_ret (o := some (.int (-2000000000))) (fun _ => rfl) ?_
          refine ⟨(-2000000000), rfl, ?_⟩
          show s_Ek (s_rows 3 L xs) 1299 s_e213.1 0 [(0, .ref 151), (1, .int a), (2, .int 3), (3, .int c)] [] s_M0 _
          refine s_ek_bk 3 (P := 129) (ls' := [(0, .ref 151), (1, .int a), (2, .int 3), (3, .int c)]) (st' := [.int a]) (M' := s_M0) rfl ?_
          refine s_ek_if1 (T := 151) rfl rfl (fun h4 => ?_) (fun h4 => ?_)
          · replace h4 : ¬ a.toInt = 0 := h4
            refine s_ek_bk 1 (P := 153) (ls' := [(0, .ref 151), (1, .int a), (2, .int 3), (3, .int c)]) (st' := [.int (-2000000000)]) (M' := s_M0) rfl ?_
            refine s_ek_ret (o := some (.int (-2000000000))) (fun _ => rfl) ?_
            exact rfl
          · replace h4 : ¬ (¬ a.toInt = 0) := h4
            replace h4 : a.toInt = 0 := by omega
            omega
        · replace h3 : ¬ (¬ a.toInt = 0) := h3
          replace h3 : a.toInt = 0 := by omega
          refine s_ek_bk 1 (P := 113) (ls' := [(0, .ref 0), (1, .int a), (2, .int 3), (3, .int c)]) (st' := [.int c]) (M' := s_M0) rfl ?_
          refine s_ek_call (ν := s_e173.1) (P := 116) (as := [.int c]) (r := []) (fun _ => rfl) rfl ?_
          show s_Ek (s_rows 3 L xs) 1297 s_e173.1 0 [(0, .int c)] [] s_M0 _
          refine s_ek_bk 1 (P := 1) (ls' := [(0, .int c)]) (st' := [.int c]) (M' := s_M0) rfl ?_
          refine s_ek_if1 (T := 13) rfl rfl (fun h4 => ?_) (fun h4 => ?_)
          · replace h4 : c.toInt < 0 := h4
            refine s_ek_bk 1 (P := 14) (ls' := [(0, .int c)]) (st' := [.int 0]) (M' := s_M0) rfl ?_
            refine s_ek_ret (o := some (.int 0)) (fun _ => rfl) ?_
            show s_Ek (s_rows 3 L xs) 1298 s_e139.1 116 [(0, .ref 0), (1, .int a), (2, .int 3), (3, .int c)] [.int 0] s_M0 _
            refine s_ek_bk 2 (P := 124) (ls' := [(0, .ref 0), (1, .int a), (2, .int 3), (3, .int c)]) (st' := [.int 0]) (M' := s_M0) rfl ?_
            refine s_ek_ret (o := some (.int 0)) (fun _ => rfl) ?_
            show s_Ek (s_rows 3 L xs) 1299 s_e138.1 7 [(0, .ref 0), (1, .int a), (2, .int 3), (3, .int c)] [.int 0] s_M0 _
            refine s_ek_bk 2 (P := 12) (ls' := [(0, .ref 0), (1, .int a), (2, .int 3), (3, .int c)]) (st' := [.int (-2000000000)]) (M' := s_M0) rfl ?_
            refine s_ek_ret (o := some (.int (-2000000000))) (fun _ => rfl) ?_
            refine ⟨(-2000000000), rfl, ?_⟩
            show s_Ek (s_rows 3 L xs) 1299 s_e213.1 0 [(0, .ref 151), (1, .int a), (2, .int 3), (3, .int c)] [] s_M0 _
            refine s_ek_bk 3 (P := 129) (ls' := [(0, .ref 151), (1, .int a), (2, .int 3), (3, .int c)]) (st' := [.int a]) (M' := s_M0) rfl ?_
            refine s_ek_if1 (T := 151) rfl rfl (fun h5 => ?_) (fun h5 => ?_)
            · replace h5 : ¬ a.toInt = 0 := h5
              omega
            · replace h5 : ¬ (¬ a.toInt = 0) := h5
              replace h5 : a.toInt = 0 := by omega
              refine s_ek_bk 3 (P := 135) (ls' := [(0, .ref 151), (1, .int a), (2, .int 3), (3, .int c)]) (st' := [.int 3, .int 0, .int c]) (M' := s_M0) rfl ?_
              refine s_ek_call (ν := s_e181.1) (P := 138) (as := [.int c, .int 0, .int 3]) (r := []) (fun _ => rfl) rfl ?_
              show s_Ek (s_rows 3 L xs) 1298 s_e181.1 0 [(0, .int c), (1, .int 0), (2, .int 3)] [] s_M0 _
              refine s_ek_bk 2 (P := 2) (ls' := [(0, .int c), (1, .int 0), (2, .int 3)]) (st' := [.int 0, .int c]) (M' := s_M0) rfl ?_
              refine s_ek_if2 (T := 14) rfl rfl (fun h6 => ?_) (fun h6 => ?_)
              · replace h6 : c.toInt < 0 := h6
                refine s_ek_bk 1 (P := 15) (ls' := [(0, .int c), (1, .int 0), (2, .int 3)]) (st' := [.int 0]) (M' := s_M0) rfl ?_
                refine s_ek_ret (o := some (.int 0)) (fun _ => rfl) ?_
                show s_Ek (s_rows 3 L xs) 1299 s_e213.1 138 [(0, .ref 151), (1, .int a), (2, .int 3), (3, .int c)] [.int 0] s_M0 _
                refine s_ek_bk 2 (P := 153) (ls' := [(0, .ref 151), (1, .int a), (2, .int 3), (3, .int c)]) (st' := [.int (-2000000000)]) (M' := s_M0) rfl ?_
                refine s_ek_ret (o := some (.int (-2000000000))) (fun _ => rfl) ?_
                exact rfl
              · replace h6 : ¬ (c.toInt < 0) := h6
                replace h6 : 0 ≤ c.toInt := by omega
                omega
          · replace h4 : ¬ (c.toInt < 0) := h4
            replace h4 : 0 ≤ c.toInt := by omega
            refine s_ek_bk 2 (P := 6) (ls' := [(0, .int c)]) (st' := [.int 4, .int c]) (M' := s_M0) rfl ?_
            refine s_ek_if2 (T := 13) rfl rfl (fun h5 => ?_) (fun h5 => ?_)
            · replace h5 : 4 ≤ c.toInt := h5
              refine s_ek_bk 1 (P := 14) (ls' := [(0, .int c)]) (st' := [.int 0]) (M' := s_M0) rfl ?_
              refine s_ek_ret (o := some (.int 0)) (fun _ => rfl) ?_
              show s_Ek (s_rows 3 L xs) 1298 s_e139.1 116 [(0, .ref 0), (1, .int a), (2, .int 3), (3, .int c)] [.int 0] s_M0 _
              refine s_ek_bk 2 (P := 124) (ls' := [(0, .ref 0), (1, .int a), (2, .int 3), (3, .int c)]) (st' := [.int 0]) (M' := s_M0) rfl ?_
              refine s_ek_ret (o := some (.int 0)) (fun _ => rfl) ?_
              show s_Ek (s_rows 3 L xs) 1299 s_e138.1 7 [(0, .ref 0), (1, .int a), (2, .int 3), (3, .int c)] [.int 0] s_M0 _
              refine s_ek_bk 2 (P := 12) (ls' := [(0, .ref 0), (1, .int a), (2, .int 3), (3, .int c)]) (st' := [.int (-2000000000)]) (M' := s_M0) rfl ?_
              refine s_ek_ret (o := some (.int (-2000000000))) (fun _ => rfl) ?_
              refine ⟨(-2000000000), rfl, ?_⟩
              show s_Ek (s_rows 3 L xs) 1299 s_e213.1 0 [(0, .ref 151), (1, .int a), (2, .int 3), (3, .int c)] [] s_M0 _
              refine s_ek_bk 3 (P := 129) (ls' := [(0, .ref 151), (1, .int a), (2, .int 3), (3, .int c)]) (st' := [.int a]) (M' := s_M0) rfl ?_
              refine s_ek_if1 (T := 151) rfl rfl (fun h6 => ?_) (fun h6 => ?_)
              · replace h6 : ¬ a.toInt = 0 := h6
                omega
              · replace h6 : ¬ (¬ a.toInt = 0) := h6
                replace h6 : a.toInt = 0 := by omega
                refine s_ek_bk 3 (P := 135) (ls' := [(0, .ref 151), (1, .int a), (2, .int 3), (3, .int c)]) (st' := [.int 3, .int 0, .int c]) (M' := s_M0) rfl ?_
                refine s_ek_call (ν := s_e181.1) (P := 138) (as := [.int c, .int 0, .int 3]) (r := []) (fun _ => rfl) rfl ?_
                show s_Ek (s_rows 3 L xs) 1298 s_e181.1 0 [(0, .int c), (1, .int 0), (2, .int 3)] [] s_M0 _
                refine s_ek_bk 2 (P := 2) (ls' := [(0, .int c), (1, .int 0), (2, .int 3)]) (st' := [.int 0, .int c]) (M' := s_M0) rfl ?_
                refine s_ek_if2 (T := 14) rfl rfl (fun h7 => ?_) (fun h7 => ?_)
                · replace h7 : c.toInt < 0 := h7
                  omega
                · replace h7 : ¬ (c.toInt < 0) := h7
                  replace h7 : 0 ≤ c.toInt := by omega
                  refine s_ek_bk 2 (P := 7) (ls' := [(0, .int c), (1, .int 0), (2, .int 3)]) (st' := [.int 3, .int c]) (M' := s_M0) rfl ?_
                  refine s_ek_if2 (T := 14) rfl rfl (fun h8 => ?_) (fun h8 => ?_)
                  · replace h8 : 3 < c.toInt := h8
                    refine s_ek_bk 1 (P := 15) (ls' := [(0, .int c), (1, .int 0), (2, .int 3)]) (st' := [.int 0]) (M' := s_M0) rfl ?_
                    refine s_ek_ret (o := some (.int 0)) (fun _ => rfl) ?_
                    show s_Ek (s_rows 3 L xs) 1299 s_e213.1 138 [(0, .ref 151), (1, .int a), (2, .int 3), (3, .int c)] [.int 0] s_M0 _
                    refine s_ek_bk 2 (P := 153) (ls' := [(0, .ref 151), (1, .int a), (2, .int 3), (3, .int c)]) (st' := [.int (-2000000000)]) (M' := s_M0) rfl ?_
                    refine s_ek_ret (o := some (.int (-2000000000))) (fun _ => rfl) ?_
                    exact rfl
                  · replace h8 : ¬ (3 < c.toInt) := h8
                    replace h8 : c.toInt ≤ 3 := by omega
                    omega
            · replace h5 : ¬ (4 ≤ c.toInt) := h5
              replace h5 : c.toInt < 4 := by omega
              refine s_ek_bk 2 (P := 14) (ls' := [(0, .int c)]) (st' := [.int 1]) (M' := s_M0) rfl ?_
              refine s_ek_ret (o := some (.int 1)) (fun _ => rfl) ?_
              show s_Ek (s_rows 3 L xs) 1298 s_e139.1 116 [(0, .ref 0), (1, .int a), (2, .int 3), (3, .int c)] [.int 1] s_M0 _
              refine s_ek_bk 3 (P := 124) (ls' := [(0, .ref 0), (1, .int a), (2, .int 3), (3, .int c)]) (st' := [.int 1]) (M' := s_M0) rfl ?_
              refine s_ek_ret (o := some (.int 1)) (fun _ => rfl) ?_
              show s_Ek (s_rows 3 L xs) 1299 s_e138.1 7 [(0, .ref 0), (1, .int a), (2, .int 3), (3, .int c)] [.int 1] s_M0 _
              refine s_ek_bk 5 (P := 19) (ls' := [(0, .ref 0), (1, .int a), (2, .int 3), (3, .int c)]) (st' := [.int 3, .int a, .ref 8]) (M' := s_M0) rfl ?_
              refine s_ek_call (ν := s_e44.1) (P := 22) (as := [.ref 8, .int a, .int 3]) (r := []) (fun _ => rfl) rfl ?_
              show s_Ek (s_rows 3 L xs) 1298 s_e44.1 0 [(0, .ref 8), (1, .int a), (2, .int 3)] [] s_M0 _
              refine s_ek_bk 2 (P := 2) (ls' := [(0, .ref 8), (1, .int a), (2, .int 3)]) (st' := [.int a, .ref 8]) (M' := s_M0) rfl ?_
              refine s_ek_call (ν := s_e41.1) (P := 5) (as := [.ref 8, .int a]) (r := []) (fun _ => rfl) rfl ?_
              show s_Ek (s_rows 3 L xs) 1297 s_e41.1 0 [(0, .ref 8), (1, .int a)] [] s_M0 _
              refine s_ek_bk 1 (P := 1) (ls' := [(0, .ref 8), (1, .int a)]) (st' := [.int a]) (M' := s_M0) rfl ?_
              refine s_ek_if1 (T := 22) rfl rfl (fun h6 => ?_) (fun h6 => ?_)
              · replace h6 : a.toInt < 0 := h6
                omega
              · replace h6 : ¬ (a.toInt < 0) := h6
                replace h6 : 0 ≤ a.toInt := by omega
                refine s_ek_bk 4 (P := 10) (ls' := [(0, .ref 8), (1, .int a)]) (st' := [.int 10, .int a]) (M' := s_M0) rfl ?_
                refine s_ek_if2 (T := 22) rfl rfl (fun h7 => ?_) (fun h7 => ?_)
                · replace h7 : 10 ≤ a.toInt := h7
                  omega
                · replace h7 : ¬ (10 ≤ a.toInt) := h7
                  replace h7 : a.toInt < 10 := by omega
                  refine s_ek_bk 3 (P := 18) (ls' := [(0, .ref 8), (1, .int a)]) (st' := [.int a, .ref 14]) (M' := s_M0) rfl ?_
                  obtain rfl : a = 0 := s_pin (k := 0) (by omega) (by decide)
                  refine s_ek_bk 6 (P := 33) (ls' := [(0, .ref 8), (1, .int 0)]) (st' := [.ref 23]) (M' := s_M0) rfl ?_
                  refine s_ek_ret (o := some (.ref 23)) (fun _ => rfl) ?_
                  show s_Ek (s_rows 3 L xs) 1298 s_e44.1 5 [(0, .ref 8), (1, .int 0), (2, .int 3)] [.ref 23] s_M0 _
                  refine s_ek_bk 5 (P := 55) (ls' := [(3, .ref 23), (0, .ref 8), (1, .int 0), (2, .int 3)]) (st' := [.int 0]) (M' := s_M0) rfl ?_
                  refine s_ek_ret (o := some (.int 0)) (fun _ => rfl) ?_
                  show s_Ek (s_rows 3 L xs) 1299 s_e138.1 22 [(0, .ref 0), (1, .int 0), (2, .int 3), (3, .int c)] [.int 0] s_M0 _
                  refine s_ek_bk 3 (P := 27) (ls' := [(4, .int 0), (0, .ref 0), (1, .int 0), (2, .int 3), (3, .int c)]) (st' := [.int c, .int 0]) (M' := s_M0) rfl ?_
                  refine s_ek_if2 (T := 52) rfl rfl (fun h8 => ?_) (fun h8 => ?_)
                  · replace h8 : 0 = c.toInt := h8
                    replace h8 : c.toInt = 0 := by omega
                    refine s_ek_bk 1 (P := 54) (ls' := [(4, .int 0), (0, .ref 0), (1, .int 0), (2, .int 3), (3, .int c)]) (st' := [.int 0]) (M' := s_M0) rfl ?_
                    refine s_ek_ret (o := some (.int 0)) (fun _ => rfl) ?_
                    refine ⟨0, rfl, ?_⟩
                    show s_Ek (s_rows 3 L xs) 1299 s_e213.1 0 [(0, .ref 151), (1, .int 0), (2, .int 3), (3, .int c)] [] s_M0 _
                    refine s_ek_bk 7 (P := 135) (ls' := [(0, .ref 151), (1, .int 0), (2, .int 3), (3, .int c)]) (st' := [.int 3, .int 0, .int c]) (M' := s_M0) rfl ?_
                    refine s_ek_call (ν := s_e181.1) (P := 138) (as := [.int c, .int 0, .int 3]) (r := []) (fun _ => rfl) rfl ?_
                    show s_Ek (s_rows 3 L xs) 1298 s_e181.1 0 [(0, .int c), (1, .int 0), (2, .int 3)] [] s_M0 _
                    refine s_ek_bk 2 (P := 2) (ls' := [(0, .int c), (1, .int 0), (2, .int 3)]) (st' := [.int 0, .int c]) (M' := s_M0) rfl ?_
                    refine s_ek_if2 (T := 14) rfl rfl (fun h9 => ?_) (fun h9 => ?_)
                    · replace h9 : c.toInt < 0 := h9
                      omega
                    · replace h9 : ¬ (c.toInt < 0) := h9
                      replace h9 : 0 ≤ c.toInt := by omega
                      refine s_ek_bk 2 (P := 7) (ls' := [(0, .int c), (1, .int 0), (2, .int 3)]) (st' := [.int 3, .int c]) (M' := s_M0) rfl ?_
                      refine s_ek_if2 (T := 14) rfl rfl (fun h10 => ?_) (fun h10 => ?_)
                      · replace h10 : 3 < c.toInt := h10
                        omega
                      · replace h10 : ¬ (3 < c.toInt) := h10
                        replace h10 : c.toInt ≤ 3 := by omega
                        refine s_ek_bk 2 (P := 15) (ls' := [(0, .int c), (1, .int 0), (2, .int 3)]) (st' := [.int 1]) (M' := s_M0) rfl ?_
                        refine s_ek_ret (o := some (.int 1)) (fun _ => rfl) ?_
                        show s_Ek (s_rows 3 L xs) 1299 s_e213.1 138 [(0, .ref 151), (1, .int 0), (2, .int 3), (3, .int c)] [.int 1] s_M0 _
                        refine s_ek_bk 5 (P := 145) (ls' := [(0, .ref 151), (1, .int 0), (2, .int 3), (3, .int c)]) (st' := [.int c, .int 0, .int 3, .ref 151]) (M' := s_M0) rfl ?_
                        refine s_ek_call (ν := s_e210.1) (P := 148) (as := [.ref 151, .int 3, .int 0, .int c]) (r := []) (fun _ => rfl) rfl ?_
                        show s_Ek (s_rows 3 L xs) 1298 s_e210.1 0 [(0, .ref 151), (1, .int 3), (2, .int 0), (3, .int c)] [] s_M0 _
                        refine s_ek_bk 3 (P := 3) (ls' := [(0, .ref 151), (1, .int 3), (2, .int 0), (3, .int c)]) (st' := [.int 0, .int 3, .ref 151]) (M' := s_M0) rfl ?_
                        refine s_ek_call (ν := s_e208.1) (P := 6) (as := [.ref 151, .int 3, .int 0]) (r := []) (fun _ => rfl) rfl ?_
                        show s_Ek (s_rows 3 L xs) 1297 s_e208.1 0 [(0, .ref 151), (1, .int 3), (2, .int 0)] [] s_M0 _
                        refine s_ek_bk 14 (P := 57) (ls' := [(0, .ref 151), (1, .int 3), (2, .int 0)]) (st' := [.int 0]) (M' := s_M0) rfl ?_
                        refine s_ek_ret (o := some (.int 0)) (fun _ => rfl) ?_
                        show s_Ek (s_rows 3 L xs) 1298 s_e210.1 6 [(0, .ref 151), (1, .int 3), (2, .int 0), (3, .int c)] [.int 0] s_M0 _
                        refine s_ek_bk 3 (P := 11) (ls' := [(4, .int 0), (0, .ref 151), (1, .int 3), (2, .int 0), (3, .int c)]) (st' := [.int c, .int 0]) (M' := s_M0) rfl ?_
                        refine s_ek_if2 (T := 17) rfl rfl (fun h11 => ?_) (fun h11 => ?_)
                        · replace h11 : ¬ 0 = c.toInt := h11
                          replace h11 : ¬ c.toInt = 0 := by omega
                          omega
                        · replace h11 : ¬ (¬ 0 = c.toInt) := h11
                          replace h11 : c.toInt = 0 := by omega
                          refine s_ek_bk 1 (P := 16) (ls' := [(4, .int 0), (0, .ref 151), (1, .int 3), (2, .int 0), (3, .int c)]) (st' := [.int 0]) (M' := s_M0) rfl ?_
                          refine s_ek_ret (o := some (.int 0)) (fun _ => rfl) ?_
                          show s_Ek (s_rows 3 L xs) 1299 s_e213.1 148 [(0, .ref 151), (1, .int 0), (2, .int 3), (3, .int c)] [.int 0] s_M0 _
                          refine s_ek_bk 1 (P := 153) (ls' := [(0, .ref 151), (1, .int 0), (2, .int 3), (3, .int c)]) (st' := [.int 0]) (M' := s_M0) rfl ?_
                          refine s_ek_ret (o := some (.int 0)) (fun _ => rfl) ?_
                          exact rfl
                  · replace h8 : ¬ (0 = c.toInt) := h8
                    replace h8 : ¬ c.toInt = 0 := by omega
                    refine s_ek_bk 6 (P := 39) (ls' := [(4, .int 0), (0, .ref 0), (1, .int 0), (2, .int 3), (3, .int c)]) (st' := [.int c, .int 0, .int 3, .int 0, .ref 73]) (M' := s_M0) rfl ?_
                    refine s_ek_call (ν := s_e13.1) (P := 42) (as := [.ref 73, .int 0, .int 3, .int 0, .int c]) (r := []) (fun _ => rfl) rfl ?_
                    show s_Ek (s_rows 3 L xs) 1298 s_e13.1 0 [(0, .ref 73), (1, .int 0), (2, .int 3), (3, .int 0), (4, .int c)] [] s_M0 _
                    refine s_ek_bk 17 (P := 40) (ls' := [(0, .ref 73), (1, .int 0), (2, .int 3), (3, .int 0), (4, .int c)]) (st' := []) (M' := s_M0) rfl ?_
                    refine s_ek_bk 6 (P := 50) (ls' := [(0, .ref 73), (1, .int 0), (2, .int 3), (3, .int 0), (4, .int c)]) (st' := []) (M' := (s_M0.set 75 (13, ((List.replicate 40 (Value.int 0)).set 0 (Value.int 3))))) rfl ?_
                    refine s_ek_bk 6 (P := 60) (ls' := [(0, .ref 73), (1, .int 0), (2, .int 3), (3, .int 0), (4, .int c)]) (st' := []) (M' := (s_M0.set 75 (13, ((List.replicate 40 (Value.int 0)).set 0 (Value.int 3))))) rfl ?_
                    refine s_ek_bk 6 (P := 71) (ls' := [(0, .ref 73), (1, .int 0), (2, .int 3), (3, .int 0), (4, .int c)]) (st' := []) (M' := ((s_M0.set 75 (13, ((List.replicate 40 (Value.int 0)).set 0 (Value.int 3)))).set 77 (13, ((List.replicate 40 (Value.int 0)).set 0 (Value.int c))))) rfl ?_
                    refine s_ek_bk 6 (P := 81) (ls' := [(0, .ref 73), (1, .int 0), (2, .int 3), (3, .int 0), (4, .int c)]) (st' := []) (M' := (((s_M0.set 75 (13, ((List.replicate 40 (Value.int 0)).set 0 (Value.int 3)))).set 77 (13, ((List.replicate 40 (Value.int 0)).set 0 (Value.int c)))).set 73 (1, ([Value.int 0, Value.int 0, Value.ref 74, Value.ref 75, Value.ref 76, Value.ref 77].set 0 (Value.int 1))))) rfl ?_
                    refine s_ek_bk 4 (P := 89) (ls' := [(0, .ref 73), (1, .int 0), (2, .int 3), (3, .int 0), (4, .int c)]) (st' := []) (M' := ((((s_M0.set 75 (13, ((List.replicate 40 (Value.int 0)).set 0 (Value.int 3)))).set 77 (13, ((List.replicate 40 (Value.int 0)).set 0 (Value.int c)))).set 73 (1, ([Value.int 0, Value.int 0, Value.ref 74, Value.ref 75, Value.ref 76, Value.ref 77].set 0 (Value.int 1)))).set 73 (1, (([Value.int 0, Value.int 0, Value.ref 74, Value.ref 75, Value.ref 76, Value.ref 77].set 0 (Value.int 1)).set 1 (Value.int 1))))) rfl ?_
                    refine s_ek_ret (o := none) (fun _ => rfl) ?_
                    show s_Ek (s_rows 3 L xs) 1299 s_e138.1 42 [(4, .int 0), (0, .ref 0), (1, .int 0), (2, .int 3), (3, .int c)] [] ((((s_M0.set 75 (13, ((List.replicate 40 (Value.int 0)).set 0 (Value.int 3)))).set 77 (13, ((List.replicate 40 (Value.int 0)).set 0 (Value.int c)))).set 73 (1, ([Value.int 0, Value.int 0, Value.ref 74, Value.ref 75, Value.ref 76, Value.ref 77].set 0 (Value.int 1)))).set 73 (1, (([Value.int 0, Value.int 0, Value.ref 74, Value.ref 75, Value.ref 76, Value.ref 77].set 0 (Value.int 1)).set 1 (Value.int 1)))) _
                    refine s_ek_bk 5 (P := 49) (ls' := [(4, .int 0), (0, .ref 0), (1, .int 0), (2, .int 3), (3, .int c)]) (st' := [.int c, .int 3, .int 0, .ref 8]) (M' := ((((s_M0.set 75 (13, ((List.replicate 40 (Value.int 0)).set 0 (Value.int 3)))).set 77 (13, ((List.replicate 40 (Value.int 0)).set 0 (Value.int c)))).set 73 (1, ([Value.int 0, Value.int 0, Value.ref 74, Value.ref 75, Value.ref 76, Value.ref 77].set 0 (Value.int 1)))).set 73 (1, (([Value.int 0, Value.int 0, Value.ref 74, Value.ref 75, Value.ref 76, Value.ref 77].set 0 (Value.int 1)).set 1 (Value.int 1))))) rfl ?_
                    refine s_ek_call (ν := s_e45.1) (P := 52) (as := [.ref 8, .int 0, .int 3, .int c]) (r := []) (fun _ => rfl) rfl ?_
                    show s_Ek (s_rows 3 L xs) 1298 s_e45.1 0 [(0, .ref 8), (1, .int 0), (2, .int 3), (3, .int c)] [] ((((s_M0.set 75 (13, ((List.replicate 40 (Value.int 0)).set 0 (Value.int 3)))).set 77 (13, ((List.replicate 40 (Value.int 0)).set 0 (Value.int c)))).set 73 (1, ([Value.int 0, Value.int 0, Value.ref 74, Value.ref 75, Value.ref 76, Value.ref 77].set 0 (Value.int 1)))).set 73 (1, (([Value.int 0, Value.int 0, Value.ref 74, Value.ref 75, Value.ref 76, Value.ref 77].set 0 (Value.int 1)).set 1 (Value.int 1)))) _
                    refine s_ek_bk 2 (P := 2) (ls' := [(0, .ref 8), (1, .int 0), (2, .int 3), (3, .int c)]) (st' := [.int 0, .ref 8]) (M' := ((((s_M0.set 75 (13, ((List.replicate 40 (Value.int 0)).set 0 (Value.int 3)))).set 77 (13, ((List.replicate 40 (Value.int 0)).set 0 (Value.int c)))).set 73 (1, ([Value.int 0, Value.int 0, Value.ref 74, Value.ref 75, Value.ref 76, Value.ref 77].set 0 (Value.int 1)))).set 73 (1, (([Value.int 0, Value.int 0, Value.ref 74, Value.ref 75, Value.ref 76, Value.ref 77].set 0 (Value.int 1)).set 1 (Value.int 1))))) rfl ?_
                    refine s_ek_call (ν := s_e41.1) (P := 5) (as := [.ref 8, .int 0]) (r := []) (fun _ => rfl) rfl ?_
                    show s_Ek (s_rows 3 L xs) 1297 s_e41.1 0 [(0, .ref 8), (1, .int 0)] [] ((((s_M0.set 75 (13, ((List.replicate 40 (Value.int 0)).set 0 (Value.int 3)))).set 77 (13, ((List.replicate 40 (Value.int 0)).set 0 (Value.int c)))).set 73 (1, ([Value.int 0, Value.int 0, Value.ref 74, Value.ref 75, Value.ref 76, Value.ref 77].set 0 (Value.int 1)))).set 73 (1, (([Value.int 0, Value.int 0, Value.ref 74, Value.ref 75, Value.ref 76, Value.ref 77].set 0 (Value.int 1)).set 1 (Value.int 1)))) _
                    refine s_ek_bk 16 (P := 33) (ls' := [(0, .ref 8), (1, .int 0)]) (st' := [.ref 23]) (M' := ((((s_M0.set 75 (13, ((List.replicate 40 (Value.int 0)).set 0 (Value.int 3)))).set 77 (13, ((List.replicate 40 (Value.int 0)).set 0 (Value.int c)))).set 73 (1, ([Value.int 0, Value.int 0, Value.ref 74, Value.ref 75, Value.ref 76, Value.ref 77].set 0 (Value.int 1)))).set 73 (1, (([Value.int 0, Value.int 0, Value.ref 74, Value.ref 75, Value.ref 76, Value.ref 77].set 0 (Value.int 1)).set 1 (Value.int 1))))) rfl ?_
                    refine s_ek_ret (o := some (.ref 23)) (fun _ => rfl) ?_
                    show s_Ek (s_rows 3 L xs) 1298 s_e45.1 5 [(0, .ref 8), (1, .int 0), (2, .int 3), (3, .int c)] [.ref 23] ((((s_M0.set 75 (13, ((List.replicate 40 (Value.int 0)).set 0 (Value.int 3)))).set 77 (13, ((List.replicate 40 (Value.int 0)).set 0 (Value.int c)))).set 73 (1, ([Value.int 0, Value.int 0, Value.ref 74, Value.ref 75, Value.ref 76, Value.ref 77].set 0 (Value.int 1)))).set 73 (1, (([Value.int 0, Value.int 0, Value.ref 74, Value.ref 75, Value.ref 76, Value.ref 77].set 0 (Value.int 1)).set 1 (Value.int 1)))) _
                    refine s_ek_bk 6 (P := 72) (ls' := [(4, .ref 23), (0, .ref 8), (1, .int 0), (2, .int 3), (3, .int c)]) (st' := []) (M' := (((((s_M0.set 75 (13, ((List.replicate 40 (Value.int 0)).set 0 (Value.int 3)))).set 77 (13, ((List.replicate 40 (Value.int 0)).set 0 (Value.int c)))).set 73 (1, ([Value.int 0, Value.int 0, Value.ref 74, Value.ref 75, Value.ref 76, Value.ref 77].set 0 (Value.int 1)))).set 73 (1, (([Value.int 0, Value.int 0, Value.ref 74, Value.ref 75, Value.ref 76, Value.ref 77].set 0 (Value.int 1)).set 1 (Value.int 1)))).set 8 (3, ([Value.ref 9, Value.int 0, Value.int 0, Value.int 99, Value.int 0, Value.ref 14, Value.ref 15, Value.ref 20, Value.ref 21, Value.ref 22].set 2 (Value.int c))))) rfl ?_
                    refine s_ek_bk 1 (P := 80) (ls' := [(4, .ref 23), (0, .ref 8), (1, .int 0), (2, .int 3), (3, .int c)]) (st' := []) (M' := (((((s_M0.set 75 (13, ((List.replicate 40 (Value.int 0)).set 0 (Value.int 3)))).set 77 (13, ((List.replicate 40 (Value.int 0)).set 0 (Value.int c)))).set 73 (1, ([Value.int 0, Value.int 0, Value.ref 74, Value.ref 75, Value.ref 76, Value.ref 77].set 0 (Value.int 1)))).set 73 (1, (([Value.int 0, Value.int 0, Value.ref 74, Value.ref 75, Value.ref 76, Value.ref 77].set 0 (Value.int 1)).set 1 (Value.int 1)))).set 8 (3, ([Value.ref 9, Value.int 0, Value.int 0, Value.int 99, Value.int 0, Value.ref 14, Value.ref 15, Value.ref 20, Value.ref 21, Value.ref 22].set 2 (Value.int c))))) rfl ?_
                    refine s_ek_ret (o := none) (fun _ => rfl) ?_
                    show s_Ek (s_rows 3 L xs) 1299 s_e138.1 52 [(4, .int 0), (0, .ref 0), (1, .int 0), (2, .int 3), (3, .int c)] [] (((((s_M0.set 75 (13, ((List.replicate 40 (Value.int 0)).set 0 (Value.int 3)))).set 77 (13, ((List.replicate 40 (Value.int 0)).set 0 (Value.int c)))).set 73 (1, ([Value.int 0, Value.int 0, Value.ref 74, Value.ref 75, Value.ref 76, Value.ref 77].set 0 (Value.int 1)))).set 73 (1, (([Value.int 0, Value.int 0, Value.ref 74, Value.ref 75, Value.ref 76, Value.ref 77].set 0 (Value.int 1)).set 1 (Value.int 1)))).set 8 (3, ([Value.ref 9, Value.int 0, Value.int 0, Value.int 99, Value.int 0, Value.ref 14, Value.ref 15, Value.ref 20, Value.ref 21, Value.ref 22].set 2 (Value.int c)))) _
                    refine s_ek_bk 1 (P := 54) (ls' := [(4, .int 0), (0, .ref 0), (1, .int 0), (2, .int 3), (3, .int c)]) (st' := [.int 0]) (M' := (((((s_M0.set 75 (13, ((List.replicate 40 (Value.int 0)).set 0 (Value.int 3)))).set 77 (13, ((List.replicate 40 (Value.int 0)).set 0 (Value.int c)))).set 73 (1, ([Value.int 0, Value.int 0, Value.ref 74, Value.ref 75, Value.ref 76, Value.ref 77].set 0 (Value.int 1)))).set 73 (1, (([Value.int 0, Value.int 0, Value.ref 74, Value.ref 75, Value.ref 76, Value.ref 77].set 0 (Value.int 1)).set 1 (Value.int 1)))).set 8 (3, ([Value.ref 9, Value.int 0, Value.int 0, Value.int 99, Value.int 0, Value.ref 14, Value.ref 15, Value.ref 20, Value.ref 21, Value.ref 22].set 2 (Value.int c))))) rfl ?_
                    refine s_ek_ret (o := some (.int 0)) (fun _ => rfl) ?_
                    refine ⟨0, rfl, ?_⟩
                    show s_Ek (s_rows 3 L xs) 1299 s_e213.1 0 [(0, .ref 151), (1, .int 0), (2, .int 3), (3, .int c)] [] (((((s_M0.set 75 (13, ((List.replicate 40 (Value.int 0)).set 0 (Value.int 3)))).set 77 (13, ((List.replicate 40 (Value.int 0)).set 0 (Value.int c)))).set 73 (1, ([Value.int 0, Value.int 0, Value.ref 74, Value.ref 75, Value.ref 76, Value.ref 77].set 0 (Value.int 1)))).set 73 (1, (([Value.int 0, Value.int 0, Value.ref 74, Value.ref 75, Value.ref 76, Value.ref 77].set 0 (Value.int 1)).set 1 (Value.int 1)))).set 8 (3, ([Value.ref 9, Value.int 0, Value.int 0, Value.int 99, Value.int 0, Value.ref 14, Value.ref 15, Value.ref 20, Value.ref 21, Value.ref 22].set 2 (Value.int c)))) _
                    refine s_ek_bk 7 (P := 135) (ls' := [(0, .ref 151), (1, .int 0), (2, .int 3), (3, .int c)]) (st' := [.int 3, .int 0, .int c]) (M' := (((((s_M0.set 75 (13, ((List.replicate 40 (Value.int 0)).set 0 (Value.int 3)))).set 77 (13, ((List.replicate 40 (Value.int 0)).set 0 (Value.int c)))).set 73 (1, ([Value.int 0, Value.int 0, Value.ref 74, Value.ref 75, Value.ref 76, Value.ref 77].set 0 (Value.int 1)))).set 73 (1, (([Value.int 0, Value.int 0, Value.ref 74, Value.ref 75, Value.ref 76, Value.ref 77].set 0 (Value.int 1)).set 1 (Value.int 1)))).set 8 (3, ([Value.ref 9, Value.int 0, Value.int 0, Value.int 99, Value.int 0, Value.ref 14, Value.ref 15, Value.ref 20, Value.ref 21, Value.ref 22].set 2 (Value.int c))))) rfl ?_
                    refine s_ek_call (ν := s_e181.1) (P := 138) (as := [.int c, .int 0, .int 3]) (r := []) (fun _ => rfl) rfl ?_
                    show s_Ek (s_rows 3 L xs) 1298 s_e181.1 0 [(0, .int c), (1, .int 0), (2, .int 3)] [] (((((s_M0.set 75 (13, ((List.replicate 40 (Value.int 0)).set 0 (Value.int 3)))).set 77 (13, ((List.replicate 40 (Value.int 0)).set 0 (Value.int c)))).set 73 (1, ([Value.int 0, Value.int 0, Value.ref 74, Value.ref 75, Value.ref 76, Value.ref 77].set 0 (Value.int 1)))).set 73 (1, (([Value.int 0, Value.int 0, Value.ref 74, Value.ref 75, Value.ref 76, Value.ref 77].set 0 (Value.int 1)).set 1 (Value.int 1)))).set 8 (3, ([Value.ref 9, Value.int 0, Value.int 0, Value.int 99, Value.int 0, Value.ref 14, Value.ref 15, Value.ref 20, Value.ref 21, Value.ref 22].set 2 (Value.int c)))) _
                    refine s_ek_bk 2 (P := 2) (ls' := [(0, .int c), (1, .int 0), (2, .int 3)]) (st' := [.int 0, .int c]) (M' := (((((s_M0.set 75 (13, ((List.replicate 40 (Value.int 0)).set 0 (Value.int 3)))).set 77 (13, ((List.replicate 40 (Value.int 0)).set 0 (Value.int c)))).set 73 (1, ([Value.int 0, Value.int 0, Value.ref 74, Value.ref 75, Value.ref 76, Value.ref 77].set 0 (Value.int 1)))).set 73 (1, (([Value.int 0, Value.int 0, Value.ref 74, Value.ref 75, Value.ref 76, Value.ref 77].set 0 (Value.int 1)).set 1 (Value.int 1)))).set 8 (3, ([Value.ref 9, Value.int 0, Value.int 0, Value.int 99, Value.int 0, Value.ref 14, Value.ref 15, Value.ref 20, Value.ref 21, Value.ref 22].set 2 (Value.int c))))) rfl ?_
                    refine s_ek_if2 (T := 14) rfl rfl (fun h9 => ?_) (fun h9 => ?_)
                    · replace h9 : c.toInt < 0 := h9
                      omega
                    · replace h9 : ¬ (c.toInt < 0) := h9
                      replace h9 : 0 ≤ c.toInt := by omega
                      refine s_ek_bk 2 (P := 7) (ls' := [(0, .int c), (1, .int 0), (2, .int 3)]) (st' := [.int 3, .int c]) (M' := (((((s_M0.set 75 (13, ((List.replicate 40 (Value.int 0)).set 0 (Value.int 3)))).set 77 (13, ((List.replicate 40 (Value.int 0)).set 0 (Value.int c)))).set 73 (1, ([Value.int 0, Value.int 0, Value.ref 74, Value.ref 75, Value.ref 76, Value.ref 77].set 0 (Value.int 1)))).set 73 (1, (([Value.int 0, Value.int 0, Value.ref 74, Value.ref 75, Value.ref 76, Value.ref 77].set 0 (Value.int 1)).set 1 (Value.int 1)))).set 8 (3, ([Value.ref 9, Value.int 0, Value.int 0, Value.int 99, Value.int 0, Value.ref 14, Value.ref 15, Value.ref 20, Value.ref 21, Value.ref 22].set 2 (Value.int c))))) rfl ?_
                      refine s_ek_if2 (T := 14) rfl rfl (fun h10 => ?_) (fun h10 => ?_)
                      · replace h10 : 3 < c.toInt := h10
                        omega
                      · replace h10 : ¬ (3 < c.toInt) := h10
                        replace h10 : c.toInt ≤ 3 := by omega
                        refine s_ek_bk 2 (P := 15) (ls' := [(0, .int c), (1, .int 0), (2, .int 3)]) (st' := [.int 1]) (M' := (((((s_M0.set 75 (13, ((List.replicate 40 (Value.int 0)).set 0 (Value.int 3)))).set 77 (13, ((List.replicate 40 (Value.int 0)).set 0 (Value.int c)))).set 73 (1, ([Value.int 0, Value.int 0, Value.ref 74, Value.ref 75, Value.ref 76, Value.ref 77].set 0 (Value.int 1)))).set 73 (1, (([Value.int 0, Value.int 0, Value.ref 74, Value.ref 75, Value.ref 76, Value.ref 77].set 0 (Value.int 1)).set 1 (Value.int 1)))).set 8 (3, ([Value.ref 9, Value.int 0, Value.int 0, Value.int 99, Value.int 0, Value.ref 14, Value.ref 15, Value.ref 20, Value.ref 21, Value.ref 22].set 2 (Value.int c))))) rfl ?_
                        refine s_ek_ret (o := some (.int 1)) (fun _ => rfl) ?_
                        show s_Ek (s_rows 3 L xs) 1299 s_e213.1 138 [(0, .ref 151), (1, .int 0), (2, .int 3), (3, .int c)] [.int 1] (((((s_M0.set 75 (13, ((List.replicate 40 (Value.int 0)).set 0 (Value.int 3)))).set 77 (13, ((List.replicate 40 (Value.int 0)).set 0 (Value.int c)))).set 73 (1, ([Value.int 0, Value.int 0, Value.ref 74, Value.ref 75, Value.ref 76, Value.ref 77].set 0 (Value.int 1)))).set 73 (1, (([Value.int 0, Value.int 0, Value.ref 74, Value.ref 75, Value.ref 76, Value.ref 77].set 0 (Value.int 1)).set 1 (Value.int 1)))).set 8 (3, ([Value.ref 9, Value.int 0, Value.int 0, Value.int 99, Value.int 0, Value.ref 14, Value.ref 15, Value.ref 20, Value.ref 21, Value.ref 22].set 2 (Value.int c)))) _
                        refine s_ek_bk 5 (P := 145) (ls' := [(0, .ref 151), (1, .int 0), (2, .int 3), (3, .int c)]) (st' := [.int c, .int 0, .int 3, .ref 151]) (M' := (((((s_M0.set 75 (13, ((List.replicate 40 (Value.int 0)).set 0 (Value.int 3)))).set 77 (13, ((List.replicate 40 (Value.int 0)).set 0 (Value.int c)))).set 73 (1, ([Value.int 0, Value.int 0, Value.ref 74, Value.ref 75, Value.ref 76, Value.ref 77].set 0 (Value.int 1)))).set 73 (1, (([Value.int 0, Value.int 0, Value.ref 74, Value.ref 75, Value.ref 76, Value.ref 77].set 0 (Value.int 1)).set 1 (Value.int 1)))).set 8 (3, ([Value.ref 9, Value.int 0, Value.int 0, Value.int 99, Value.int 0, Value.ref 14, Value.ref 15, Value.ref 20, Value.ref 21, Value.ref 22].set 2 (Value.int c))))) rfl ?_
                        refine s_ek_call (ν := s_e210.1) (P := 148) (as := [.ref 151, .int 3, .int 0, .int c]) (r := []) (fun _ => rfl) rfl ?_
                        show s_Ek (s_rows 3 L xs) 1298 s_e210.1 0 [(0, .ref 151), (1, .int 3), (2, .int 0), (3, .int c)] [] (((((s_M0.set 75 (13, ((List.replicate 40 (Value.int 0)).set 0 (Value.int 3)))).set 77 (13, ((List.replicate 40 (Value.int 0)).set 0 (Value.int c)))).set 73 (1, ([Value.int 0, Value.int 0, Value.ref 74, Value.ref 75, Value.ref 76, Value.ref 77].set 0 (Value.int 1)))).set 73 (1, (([Value.int 0, Value.int 0, Value.ref 74, Value.ref 75, Value.ref 76, Value.ref 77].set 0 (Value.int 1)).set 1 (Value.int 1)))).set 8 (3, ([Value.ref 9, Value.int 0, Value.int 0, Value.int 99, Value.int 0, Value.ref 14, Value.ref 15, Value.ref 20, Value.ref 21, Value.ref 22].set 2 (Value.int c)))) _
                        refine s_ek_bk 3 (P := 3) (ls' := [(0, .ref 151), (1, .int 3), (2, .int 0), (3, .int c)]) (st' := [.int 0, .int 3, .ref 151]) (M' := (((((s_M0.set 75 (13, ((List.replicate 40 (Value.int 0)).set 0 (Value.int 3)))).set 77 (13, ((List.replicate 40 (Value.int 0)).set 0 (Value.int c)))).set 73 (1, ([Value.int 0, Value.int 0, Value.ref 74, Value.ref 75, Value.ref 76, Value.ref 77].set 0 (Value.int 1)))).set 73 (1, (([Value.int 0, Value.int 0, Value.ref 74, Value.ref 75, Value.ref 76, Value.ref 77].set 0 (Value.int 1)).set 1 (Value.int 1)))).set 8 (3, ([Value.ref 9, Value.int 0, Value.int 0, Value.int 99, Value.int 0, Value.ref 14, Value.ref 15, Value.ref 20, Value.ref 21, Value.ref 22].set 2 (Value.int c))))) rfl ?_
                        refine s_ek_call (ν := s_e208.1) (P := 6) (as := [.ref 151, .int 3, .int 0]) (r := []) (fun _ => rfl) rfl ?_
                        show s_Ek (s_rows 3 L xs) 1297 s_e208.1 0 [(0, .ref 151), (1, .int 3), (2, .int 0)] [] (((((s_M0.set 75 (13, ((List.replicate 40 (Value.int 0)).set 0 (Value.int 3)))).set 77 (13, ((List.replicate 40 (Value.int 0)).set 0 (Value.int c)))).set 73 (1, ([Value.int 0, Value.int 0, Value.ref 74, Value.ref 75, Value.ref 76, Value.ref 77].set 0 (Value.int 1)))).set 73 (1, (([Value.int 0, Value.int 0, Value.ref 74, Value.ref 75, Value.ref 76, Value.ref 77].set 0 (Value.int 1)).set 1 (Value.int 1)))).set 8 (3, ([Value.ref 9, Value.int 0, Value.int 0, Value.int 99, Value.int 0, Value.ref 14, Value.ref 15, Value.ref 20, Value.ref 21, Value.ref 22].set 2 (Value.int c)))) _
                        refine s_ek_bk 14 (P := 57) (ls' := [(0, .ref 151), (1, .int 3), (2, .int 0)]) (st' := [.int 0]) (M' := (((((s_M0.set 75 (13, ((List.replicate 40 (Value.int 0)).set 0 (Value.int 3)))).set 77 (13, ((List.replicate 40 (Value.int 0)).set 0 (Value.int c)))).set 73 (1, ([Value.int 0, Value.int 0, Value.ref 74, Value.ref 75, Value.ref 76, Value.ref 77].set 0 (Value.int 1)))).set 73 (1, (([Value.int 0, Value.int 0, Value.ref 74, Value.ref 75, Value.ref 76, Value.ref 77].set 0 (Value.int 1)).set 1 (Value.int 1)))).set 8 (3, ([Value.ref 9, Value.int 0, Value.int 0, Value.int 99, Value.int 0, Value.ref 14, Value.ref 15, Value.ref 20, Value.ref 21, Value.ref 22].set 2 (Value.int c))))) rfl ?_
                        refine s_ek_ret (o := some (.int 0)) (fun _ => rfl) ?_
                        show s_Ek (s_rows 3 L xs) 1298 s_e210.1 6 [(0, .ref 151), (1, .int 3), (2, .int 0), (3, .int c)] [.int 0] (((((s_M0.set 75 (13, ((List.replicate 40 (Value.int 0)).set 0 (Value.int 3)))).set 77 (13, ((List.replicate 40 (Value.int 0)).set 0 (Value.int c)))).set 73 (1, ([Value.int 0, Value.int 0, Value.ref 74, Value.ref 75, Value.ref 76, Value.ref 77].set 0 (Value.int 1)))).set 73 (1, (([Value.int 0, Value.int 0, Value.ref 74, Value.ref 75, Value.ref 76, Value.ref 77].set 0 (Value.int 1)).set 1 (Value.int 1)))).set 8 (3, ([Value.ref 9, Value.int 0, Value.int 0, Value.int 99, Value.int 0, Value.ref 14, Value.ref 15, Value.ref 20, Value.ref 21, Value.ref 22].set 2 (Value.int c)))) _
                        refine s_ek_bk 3 (P := 11) (ls' := [(4, .int 0), (0, .ref 151), (1, .int 3), (2, .int 0), (3, .int c)]) (st' := [.int c, .int 0]) (M' := (((((s_M0.set 75 (13, ((List.replicate 40 (Value.int 0)).set 0 (Value.int 3)))).set 77 (13, ((List.replicate 40 (Value.int 0)).set 0 (Value.int c)))).set 73 (1, ([Value.int 0, Value.int 0, Value.ref 74, Value.ref 75, Value.ref 76, Value.ref 77].set 0 (Value.int 1)))).set 73 (1, (([Value.int 0, Value.int 0, Value.ref 74, Value.ref 75, Value.ref 76, Value.ref 77].set 0 (Value.int 1)).set 1 (Value.int 1)))).set 8 (3, ([Value.ref 9, Value.int 0, Value.int 0, Value.int 99, Value.int 0, Value.ref 14, Value.ref 15, Value.ref 20, Value.ref 21, Value.ref 22].set 2 (Value.int c))))) rfl ?_
                        refine s_ek_if2 (T := 17) rfl rfl (fun h11 => ?_) (fun h11 => ?_)
                        · replace h11 : ¬ 0 = c.toInt := h11
                          replace h11 : ¬ c.toInt = 0 := by omega
                          refine s_ek_bk 3 (P := 22) (ls' := [(4, .int 0), (0, .ref 151), (1, .int 3), (2, .int 0), (3, .int c)]) (st' := []) (M' := (((((s_M0.set 75 (13, ((List.replicate 40 (Value.int 0)).set 0 (Value.int 3)))).set 77 (13, ((List.replicate 40 (Value.int 0)).set 0 (Value.int c)))).set 73 (1, ([Value.int 0, Value.int 0, Value.ref 74, Value.ref 75, Value.ref 76, Value.ref 77].set 0 (Value.int 1)))).set 73 (1, (([Value.int 0, Value.int 0, Value.ref 74, Value.ref 75, Value.ref 76, Value.ref 77].set 0 (Value.int 1)).set 1 (Value.int 1)))).set 8 (3, ([Value.ref 9, Value.int 0, Value.int 0, Value.int 99, Value.int 0, Value.ref 14, Value.ref 15, Value.ref 20, Value.ref 21, Value.ref 22].set 2 (Value.int c))))) rfl ?_
                          refine s_ek_bk 10 (P := 131) (ls' := [(4, .int 0), (0, .ref 151), (1, .int 3), (2, .int 0), (3, .int c)]) (st' := []) (M' := ((((((s_M0.set 75 (13, ((List.replicate 40 (Value.int 0)).set 0 (Value.int 3)))).set 77 (13, ((List.replicate 40 (Value.int 0)).set 0 (Value.int c)))).set 73 (1, ([Value.int 0, Value.int 0, Value.ref 74, Value.ref 75, Value.ref 76, Value.ref 77].set 0 (Value.int 1)))).set 73 (1, (([Value.int 0, Value.int 0, Value.ref 74, Value.ref 75, Value.ref 76, Value.ref 77].set 0 (Value.int 1)).set 1 (Value.int 1)))).set 8 (3, ([Value.ref 9, Value.int 0, Value.int 0, Value.int 99, Value.int 0, Value.ref 14, Value.ref 15, Value.ref 20, Value.ref 21, Value.ref 22].set 2 (Value.int c)))).set 166 (13, ((List.replicate 40 (Value.int 0)).set 0 (Value.int 3))))) rfl ?_
                          refine s_ek_bk 6 (P := 141) (ls' := [(4, .int 0), (0, .ref 151), (1, .int 3), (2, .int 0), (3, .int c)]) (st' := []) (M' := ((((((s_M0.set 75 (13, ((List.replicate 40 (Value.int 0)).set 0 (Value.int 3)))).set 77 (13, ((List.replicate 40 (Value.int 0)).set 0 (Value.int c)))).set 73 (1, ([Value.int 0, Value.int 0, Value.ref 74, Value.ref 75, Value.ref 76, Value.ref 77].set 0 (Value.int 1)))).set 73 (1, (([Value.int 0, Value.int 0, Value.ref 74, Value.ref 75, Value.ref 76, Value.ref 77].set 0 (Value.int 1)).set 1 (Value.int 1)))).set 8 (3, ([Value.ref 9, Value.int 0, Value.int 0, Value.int 99, Value.int 0, Value.ref 14, Value.ref 15, Value.ref 20, Value.ref 21, Value.ref 22].set 2 (Value.int c)))).set 166 (13, ((List.replicate 40 (Value.int 0)).set 0 (Value.int 3))))) rfl ?_
                          refine s_ek_bk 6 (P := 152) (ls' := [(4, .int 0), (0, .ref 151), (1, .int 3), (2, .int 0), (3, .int c)]) (st' := []) (M' := ((((((s_M0.set 75 (13, ((List.replicate 40 (Value.int 0)).set 0 (Value.int 3)))).set 77 (13, ((List.replicate 40 (Value.int 0)).set 0 (Value.int c)))).set 73 (1, ([Value.int 0, Value.int 0, Value.ref 74, Value.ref 75, Value.ref 76, Value.ref 77].set 0 (Value.int 1)))).set 73 (1, (([Value.int 0, Value.int 0, Value.ref 74, Value.ref 75, Value.ref 76, Value.ref 77].set 0 (Value.int 1)).set 1 (Value.int 1)))).set 8 (3, ([Value.ref 9, Value.int 0, Value.int 0, Value.int 99, Value.int 0, Value.ref 14, Value.ref 15, Value.ref 20, Value.ref 21, Value.ref 22].set 2 (Value.int c)))).set 166 (13, ((List.replicate 40 (Value.int 0)).set 0 (Value.int 3))))) rfl ?_
                          refine s_ek_bk 6 (P := 162) (ls' := [(4, .int 0), (0, .ref 151), (1, .int 3), (2, .int 0), (3, .int c)]) (st' := []) (M' := (((((((s_M0.set 75 (13, ((List.replicate 40 (Value.int 0)).set 0 (Value.int 3)))).set 77 (13, ((List.replicate 40 (Value.int 0)).set 0 (Value.int c)))).set 73 (1, ([Value.int 0, Value.int 0, Value.ref 74, Value.ref 75, Value.ref 76, Value.ref 77].set 0 (Value.int 1)))).set 73 (1, (([Value.int 0, Value.int 0, Value.ref 74, Value.ref 75, Value.ref 76, Value.ref 77].set 0 (Value.int 1)).set 1 (Value.int 1)))).set 8 (3, ([Value.ref 9, Value.int 0, Value.int 0, Value.int 99, Value.int 0, Value.ref 14, Value.ref 15, Value.ref 20, Value.ref 21, Value.ref 22].set 2 (Value.int c)))).set 166 (13, ((List.replicate 40 (Value.int 0)).set 0 (Value.int 3)))).set 169 (13, ((List.replicate 40 (Value.int 0)).set 0 (Value.int c))))) rfl ?_
                          refine s_ek_bk 6 (P := 172) (ls' := [(4, .int 0), (0, .ref 151), (1, .int 3), (2, .int 0), (3, .int c)]) (st' := []) (M' := ((((((((s_M0.set 75 (13, ((List.replicate 40 (Value.int 0)).set 0 (Value.int 3)))).set 77 (13, ((List.replicate 40 (Value.int 0)).set 0 (Value.int c)))).set 73 (1, ([Value.int 0, Value.int 0, Value.ref 74, Value.ref 75, Value.ref 76, Value.ref 77].set 0 (Value.int 1)))).set 73 (1, (([Value.int 0, Value.int 0, Value.ref 74, Value.ref 75, Value.ref 76, Value.ref 77].set 0 (Value.int 1)).set 1 (Value.int 1)))).set 8 (3, ([Value.ref 9, Value.int 0, Value.int 0, Value.int 99, Value.int 0, Value.ref 14, Value.ref 15, Value.ref 20, Value.ref 21, Value.ref 22].set 2 (Value.int c)))).set 166 (13, ((List.replicate 40 (Value.int 0)).set 0 (Value.int 3)))).set 169 (13, ((List.replicate 40 (Value.int 0)).set 0 (Value.int c)))).set 151 (11, ([Value.int 0, Value.ref 152, Value.int 0, Value.int 0, Value.int 0, Value.int 0, Value.int 0, Value.ref 153, Value.ref 154, Value.ref 155, Value.ref 156, Value.ref 157, Value.ref 158, Value.ref 159, Value.int 0, Value.ref 160, Value.ref 161, Value.ref 162, Value.int 0, Value.int 99, Value.ref 163, Value.ref 164, Value.ref 165, Value.int 0, Value.int 0, Value.ref 166, Value.ref 167, Value.ref 168, Value.ref 169, Value.ref 170, Value.int 0, Value.int 0, Value.ref 171, Value.ref 172, Value.ref 173, Value.int 0, Value.int 0, Value.ref 174, Value.ref 175, Value.ref 176, Value.ref 177, Value.ref 178, Value.int 0, Value.ref 179, Value.int 0, Value.ref 180, Value.ref 181, Value.ref 182, Value.ref 183, Value.ref 184].set 23 (Value.int 1))))) rfl ?_
                          refine s_ek_bk 4 (P := 176) (ls' := [(4, .int 0), (0, .ref 151), (1, .int 3), (2, .int 0), (3, .int c)]) (st' := [.int c, .int 0, .int 3, .ref 151]) (M' := ((((((((s_M0.set 75 (13, ((List.replicate 40 (Value.int 0)).set 0 (Value.int 3)))).set 77 (13, ((List.replicate 40 (Value.int 0)).set 0 (Value.int c)))).set 73 (1, ([Value.int 0, Value.int 0, Value.ref 74, Value.ref 75, Value.ref 76, Value.ref 77].set 0 (Value.int 1)))).set 73 (1, (([Value.int 0, Value.int 0, Value.ref 74, Value.ref 75, Value.ref 76, Value.ref 77].set 0 (Value.int 1)).set 1 (Value.int 1)))).set 8 (3, ([Value.ref 9, Value.int 0, Value.int 0, Value.int 99, Value.int 0, Value.ref 14, Value.ref 15, Value.ref 20, Value.ref 21, Value.ref 22].set 2 (Value.int c)))).set 166 (13, ((List.replicate 40 (Value.int 0)).set 0 (Value.int 3)))).set 169 (13, ((List.replicate 40 (Value.int 0)).set 0 (Value.int c)))).set 151 (11, ([Value.int 0, Value.ref 152, Value.int 0, Value.int 0, Value.int 0, Value.int 0, Value.int 0, Value.ref 153, Value.ref 154, Value.ref 155, Value.ref 156, Value.ref 157, Value.ref 158, Value.ref 159, Value.int 0, Value.ref 160, Value.ref 161, Value.ref 162, Value.int 0, Value.int 99, Value.ref 163, Value.ref 164, Value.ref 165, Value.int 0, Value.int 0, Value.ref 166, Value.ref 167, Value.ref 168, Value.ref 169, Value.ref 170, Value.int 0, Value.int 0, Value.ref 171, Value.ref 172, Value.ref 173, Value.int 0, Value.int 0, Value.ref 174, Value.ref 175, Value.ref 176, Value.ref 177, Value.ref 178, Value.int 0, Value.ref 179, Value.int 0, Value.ref 180, Value.ref 181, Value.ref 182, Value.ref 183, Value.ref 184].set 23 (Value.int 1))))) rfl ?_
                          refine s_ek_call (ν := s_e209.1) (P := 179) (as := [.ref 151, .int 3, .int 0, .int c]) (r := []) (fun _ => rfl) rfl ?_
                          show s_Ek (s_rows 3 L xs) 1297 s_e209.1 0 [(0, .ref 151), (1, .int 3), (2, .int 0), (3, .int c)] [] ((((((((s_M0.set 75 (13, ((List.replicate 40 (Value.int 0)).set 0 (Value.int 3)))).set 77 (13, ((List.replicate 40 (Value.int 0)).set 0 (Value.int c)))).set 73 (1, ([Value.int 0, Value.int 0, Value.ref 74, Value.ref 75, Value.ref 76, Value.ref 77].set 0 (Value.int 1)))).set 73 (1, (([Value.int 0, Value.int 0, Value.ref 74, Value.ref 75, Value.ref 76, Value.ref 77].set 0 (Value.int 1)).set 1 (Value.int 1)))).set 8 (3, ([Value.ref 9, Value.int 0, Value.int 0, Value.int 99, Value.int 0, Value.ref 14, Value.ref 15, Value.ref 20, Value.ref 21, Value.ref 22].set 2 (Value.int c)))).set 166 (13, ((List.replicate 40 (Value.int 0)).set 0 (Value.int 3)))).set 169 (13, ((List.replicate 40 (Value.int 0)).set 0 (Value.int c)))).set 151 (11, ([Value.int 0, Value.ref 152, Value.int 0, Value.int 0, Value.int 0, Value.int 0, Value.int 0, Value.ref 153, Value.ref 154, Value.ref 155, Value.ref 156, Value.ref 157, Value.ref 158, Value.ref 159, Value.int 0, Value.ref 160, Value.ref 161, Value.ref 162, Value.int 0, Value.int 99, Value.ref 163, Value.ref 164, Value.ref 165, Value.int 0, Value.int 0, Value.ref 166, Value.ref 167, Value.ref 168, Value.ref 169, Value.ref 170, Value.int 0, Value.int 0, Value.ref 171, Value.ref 172, Value.ref 173, Value.int 0, Value.int 0, Value.ref 174, Value.ref 175, Value.ref 176, Value.ref 177, Value.ref 178, Value.int 0, Value.ref 179, Value.int 0, Value.ref 180, Value.ref 181, Value.ref 182, Value.ref 183, Value.ref 184].set 23 (Value.int 1)))) _
                          refine s_ek_bk 14 (P := 54) (ls' := [(0, .ref 151), (1, .int 3), (2, .int 0), (3, .int c)]) (st' := []) (M' := (((((((((s_M0.set 75 (13, ((List.replicate 40 (Value.int 0)).set 0 (Value.int 3)))).set 77 (13, ((List.replicate 40 (Value.int 0)).set 0 (Value.int c)))).set 73 (1, ([Value.int 0, Value.int 0, Value.ref 74, Value.ref 75, Value.ref 76, Value.ref 77].set 0 (Value.int 1)))).set 73 (1, (([Value.int 0, Value.int 0, Value.ref 74, Value.ref 75, Value.ref 76, Value.ref 77].set 0 (Value.int 1)).set 1 (Value.int 1)))).set 8 (3, ([Value.ref 9, Value.int 0, Value.int 0, Value.int 99, Value.int 0, Value.ref 14, Value.ref 15, Value.ref 20, Value.ref 21, Value.ref 22].set 2 (Value.int c)))).set 166 (13, ((List.replicate 40 (Value.int 0)).set 0 (Value.int 3)))).set 169 (13, ((List.replicate 40 (Value.int 0)).set 0 (Value.int c)))).set 151 (11, ([Value.int 0, Value.ref 152, Value.int 0, Value.int 0, Value.int 0, Value.int 0, Value.int 0, Value.ref 153, Value.ref 154, Value.ref 155, Value.ref 156, Value.ref 157, Value.ref 158, Value.ref 159, Value.int 0, Value.ref 160, Value.ref 161, Value.ref 162, Value.int 0, Value.int 99, Value.ref 163, Value.ref 164, Value.ref 165, Value.int 0, Value.int 0, Value.ref 166, Value.ref 167, Value.ref 168, Value.ref 169, Value.ref 170, Value.int 0, Value.int 0, Value.ref 171, Value.ref 172, Value.ref 173, Value.int 0, Value.int 0, Value.ref 174, Value.ref 175, Value.ref 176, Value.ref 177, Value.ref 178, Value.int 0, Value.ref 179, Value.int 0, Value.ref 180, Value.ref 181, Value.ref 182, Value.ref 183, Value.ref 184].set 23 (Value.int 1)))).set 151 (11, (([Value.int 0, Value.ref 152, Value.int 0, Value.int 0, Value.int 0, Value.int 0, Value.int 0, Value.ref 153, Value.ref 154, Value.ref 155, Value.ref 156, Value.ref 157, Value.ref 158, Value.ref 159, Value.int 0, Value.ref 160, Value.ref 161, Value.ref 162, Value.int 0, Value.int 99, Value.ref 163, Value.ref 164, Value.ref 165, Value.int 0, Value.int 0, Value.ref 166, Value.ref 167, Value.ref 168, Value.ref 169, Value.ref 170, Value.int 0, Value.int 0, Value.ref 171, Value.ref 172, Value.ref 173, Value.int 0, Value.int 0, Value.ref 174, Value.ref 175, Value.ref 176, Value.ref 177, Value.ref 178, Value.int 0, Value.ref 179, Value.int 0, Value.ref 180, Value.ref 181, Value.ref 182, Value.ref 183, Value.ref 184].set 23 (Value.int 1)).set 18 (Value.int c))))) rfl ?_
                          refine s_ek_bk 1 (P := 62) (ls' := [(0, .ref 151), (1, .int 3), (2, .int 0), (3, .int c)]) (st' := []) (M' := (((((((((s_M0.set 75 (13, ((List.replicate 40 (Value.int 0)).set 0 (Value.int 3)))).set 77 (13, ((List.replicate 40 (Value.int 0)).set 0 (Value.int c)))).set 73 (1, ([Value.int 0, Value.int 0, Value.ref 74, Value.ref 75, Value.ref 76, Value.ref 77].set 0 (Value.int 1)))).set 73 (1, (([Value.int 0, Value.int 0, Value.ref 74, Value.ref 75, Value.ref 76, Value.ref 77].set 0 (Value.int 1)).set 1 (Value.int 1)))).set 8 (3, ([Value.ref 9, Value.int 0, Value.int 0, Value.int 99, Value.int 0, Value.ref 14, Value.ref 15, Value.ref 20, Value.ref 21, Value.ref 22].set 2 (Value.int c)))).set 166 (13, ((List.replicate 40 (Value.int 0)).set 0 (Value.int 3)))).set 169 (13, ((List.replicate 40 (Value.int 0)).set 0 (Value.int c)))).set 151 (11, ([Value.int 0, Value.ref 152, Value.int 0, Value.int 0, Value.int 0, Value.int 0, Value.int 0, Value.ref 153, Value.ref 154, Value.ref 155, Value.ref 156, Value.ref 157, Value.ref 158, Value.ref 159, Value.int 0, Value.ref 160, Value.ref 161, Value.ref 162, Value.int 0, Value.int 99, Value.ref 163, Value.ref 164, Value.ref 165, Value.int 0, Value.int 0, Value.ref 166, Value.ref 167, Value.ref 168, Value.ref 169, Value.ref 170, Value.int 0, Value.int 0, Value.ref 171, Value.ref 172, Value.ref 173, Value.int 0, Value.int 0, Value.ref 174, Value.ref 175, Value.ref 176, Value.ref 177, Value.ref 178, Value.int 0, Value.ref 179, Value.int 0, Value.ref 180, Value.ref 181, Value.ref 182, Value.ref 183, Value.ref 184].set 23 (Value.int 1)))).set 151 (11, (([Value.int 0, Value.ref 152, Value.int 0, Value.int 0, Value.int 0, Value.int 0, Value.int 0, Value.ref 153, Value.ref 154, Value.ref 155, Value.ref 156, Value.ref 157, Value.ref 158, Value.ref 159, Value.int 0, Value.ref 160, Value.ref 161, Value.ref 162, Value.int 0, Value.int 99, Value.ref 163, Value.ref 164, Value.ref 165, Value.int 0, Value.int 0, Value.ref 166, Value.ref 167, Value.ref 168, Value.ref 169, Value.ref 170, Value.int 0, Value.int 0, Value.ref 171, Value.ref 172, Value.ref 173, Value.int 0, Value.int 0, Value.ref 174, Value.ref 175, Value.ref 176, Value.ref 177, Value.ref 178, Value.int 0, Value.ref 179, Value.int 0, Value.ref 180, Value.ref 181, Value.ref 182, Value.ref 183, Value.ref 184].set 23 (Value.int 1)).set 18 (Value.int c))))) rfl ?_
                          refine s_ek_ret (o := none) (fun _ => rfl) ?_
                          show s_Ek (s_rows 3 L xs) 1298 s_e210.1 179 [(4, .int 0), (0, .ref 151), (1, .int 3), (2, .int 0), (3, .int c)] [] (((((((((s_M0.set 75 (13, ((List.replicate 40 (Value.int 0)).set 0 (Value.int 3)))).set 77 (13, ((List.replicate 40 (Value.int 0)).set 0 (Value.int c)))).set 73 (1, ([Value.int 0, Value.int 0, Value.ref 74, Value.ref 75, Value.ref 76, Value.ref 77].set 0 (Value.int 1)))).set 73 (1, (([Value.int 0, Value.int 0, Value.ref 74, Value.ref 75, Value.ref 76, Value.ref 77].set 0 (Value.int 1)).set 1 (Value.int 1)))).set 8 (3, ([Value.ref 9, Value.int 0, Value.int 0, Value.int 99, Value.int 0, Value.ref 14, Value.ref 15, Value.ref 20, Value.ref 21, Value.ref 22].set 2 (Value.int c)))).set 166 (13, ((List.replicate 40 (Value.int 0)).set 0 (Value.int 3)))).set 169 (13, ((List.replicate 40 (Value.int 0)).set 0 (Value.int c)))).set 151 (11, ([Value.int 0, Value.ref 152, Value.int 0, Value.int 0, Value.int 0, Value.int 0, Value.int 0, Value.ref 153, Value.ref 154, Value.ref 155, Value.ref 156, Value.ref 157, Value.ref 158, Value.ref 159, Value.int 0, Value.ref 160, Value.ref 161, Value.ref 162, Value.int 0, Value.int 99, Value.ref 163, Value.ref 164, Value.ref 165, Value.int 0, Value.int 0, Value.ref 166, Value.ref 167, Value.ref 168, Value.ref 169, Value.ref 170, Value.int 0, Value.int 0, Value.ref 171, Value.ref 172, Value.ref 173, Value.int 0, Value.int 0, Value.ref 174, Value.ref 175, Value.ref 176, Value.ref 177, Value.ref 178, Value.int 0, Value.ref 179, Value.int 0, Value.ref 180, Value.ref 181, Value.ref 182, Value.ref 183, Value.ref 184].set 23 (Value.int 1)))).set 151 (11, (([Value.int 0, Value.ref 152, Value.int 0, Value.int 0, Value.int 0, Value.int 0, Value.int 0, Value.ref 153, Value.ref 154, Value.ref 155, Value.ref 156, Value.ref 157, Value.ref 158, Value.ref 159, Value.int 0, Value.ref 160, Value.ref 161, Value.ref 162, Value.int 0, Value.int 99, Value.ref 163, Value.ref 164, Value.ref 165, Value.int 0, Value.int 0, Value.ref 166, Value.ref 167, Value.ref 168, Value.ref 169, Value.ref 170, Value.int 0, Value.int 0, Value.ref 171, Value.ref 172, Value.ref 173, Value.int 0, Value.int 0, Value.ref 174, Value.ref 175, Value.ref 176, Value.ref 177, Value.ref 178, Value.int 0, Value.ref 179, Value.int 0, Value.ref 180, Value.ref 181, Value.ref 182, Value.ref 183, Value.ref 184].set 23 (Value.int 1)).set 18 (Value.int c)))) _
                          refine s_ek_bk 1 (P := 181) (ls' := [(4, .int 0), (0, .ref 151), (1, .int 3), (2, .int 0), (3, .int c)]) (st' := [.int 0]) (M' := (((((((((s_M0.set 75 (13, ((List.replicate 40 (Value.int 0)).set 0 (Value.int 3)))).set 77 (13, ((List.replicate 40 (Value.int 0)).set 0 (Value.int c)))).set 73 (1, ([Value.int 0, Value.int 0, Value.ref 74, Value.ref 75, Value.ref 76, Value.ref 77].set 0 (Value.int 1)))).set 73 (1, (([Value.int 0, Value.int 0, Value.ref 74, Value.ref 75, Value.ref 76, Value.ref 77].set 0 (Value.int 1)).set 1 (Value.int 1)))).set 8 (3, ([Value.ref 9, Value.int 0, Value.int 0, Value.int 99, Value.int 0, Value.ref 14, Value.ref 15, Value.ref 20, Value.ref 21, Value.ref 22].set 2 (Value.int c)))).set 166 (13, ((List.replicate 40 (Value.int 0)).set 0 (Value.int 3)))).set 169 (13, ((List.replicate 40 (Value.int 0)).set 0 (Value.int c)))).set 151 (11, ([Value.int 0, Value.ref 152, Value.int 0, Value.int 0, Value.int 0, Value.int 0, Value.int 0, Value.ref 153, Value.ref 154, Value.ref 155, Value.ref 156, Value.ref 157, Value.ref 158, Value.ref 159, Value.int 0, Value.ref 160, Value.ref 161, Value.ref 162, Value.int 0, Value.int 99, Value.ref 163, Value.ref 164, Value.ref 165, Value.int 0, Value.int 0, Value.ref 166, Value.ref 167, Value.ref 168, Value.ref 169, Value.ref 170, Value.int 0, Value.int 0, Value.ref 171, Value.ref 172, Value.ref 173, Value.int 0, Value.int 0, Value.ref 174, Value.ref 175, Value.ref 176, Value.ref 177, Value.ref 178, Value.int 0, Value.ref 179, Value.int 0, Value.ref 180, Value.ref 181, Value.ref 182, Value.ref 183, Value.ref 184].set 23 (Value.int 1)))).set 151 (11, (([Value.int 0, Value.ref 152, Value.int 0, Value.int 0, Value.int 0, Value.int 0, Value.int 0, Value.ref 153, Value.ref 154, Value.ref 155, Value.ref 156, Value.ref 157, Value.ref 158, Value.ref 159, Value.int 0, Value.ref 160, Value.ref 161, Value.ref 162, Value.int 0, Value.int 99, Value.ref 163, Value.ref 164, Value.ref 165, Value.int 0, Value.int 0, Value.ref 166, Value.ref 167, Value.ref 168, Value.ref 169, Value.ref 170, Value.int 0, Value.int 0, Value.ref 171, Value.ref 172, Value.ref 173, Value.int 0, Value.int 0, Value.ref 174, Value.ref 175, Value.ref 176, Value.ref 177, Value.ref 178, Value.int 0, Value.ref 179, Value.int 0, Value.ref 180, Value.ref 181, Value.ref 182, Value.ref 183, Value.ref 184].set 23 (Value.int 1)).set 18 (Value.int c))))) rfl ?_
                          refine s_ek_ret (o := some (.int 0)) (fun _ => rfl) ?_
                          show s_Ek (s_rows 3 L xs) 1299 s_e213.1 148 [(0, .ref 151), (1, .int 0), (2, .int 3), (3, .int c)] [.int 0] (((((((((s_M0.set 75 (13, ((List.replicate 40 (Value.int 0)).set 0 (Value.int 3)))).set 77 (13, ((List.replicate 40 (Value.int 0)).set 0 (Value.int c)))).set 73 (1, ([Value.int 0, Value.int 0, Value.ref 74, Value.ref 75, Value.ref 76, Value.ref 77].set 0 (Value.int 1)))).set 73 (1, (([Value.int 0, Value.int 0, Value.ref 74, Value.ref 75, Value.ref 76, Value.ref 77].set 0 (Value.int 1)).set 1 (Value.int 1)))).set 8 (3, ([Value.ref 9, Value.int 0, Value.int 0, Value.int 99, Value.int 0, Value.ref 14, Value.ref 15, Value.ref 20, Value.ref 21, Value.ref 22].set 2 (Value.int c)))).set 166 (13, ((List.replicate 40 (Value.int 0)).set 0 (Value.int 3)))).set 169 (13, ((List.replicate 40 (Value.int 0)).set 0 (Value.int c)))).set 151 (11, ([Value.int 0, Value.ref 152, Value.int 0, Value.int 0, Value.int 0, Value.int 0, Value.int 0, Value.ref 153, Value.ref 154, Value.ref 155, Value.ref 156, Value.ref 157, Value.ref 158, Value.ref 159, Value.int 0, Value.ref 160, Value.ref 161, Value.ref 162, Value.int 0, Value.int 99, Value.ref 163, Value.ref 164, Value.ref 165, Value.int 0, Value.int 0, Value.ref 166, Value.ref 167, Value.ref 168, Value.ref 169, Value.ref 170, Value.int 0, Value.int 0, Value.ref 171, Value.ref 172, Value.ref 173, Value.int 0, Value.int 0, Value.ref 174, Value.ref 175, Value.ref 176, Value.ref 177, Value.ref 178, Value.int 0, Value.ref 179, Value.int 0, Value.ref 180, Value.ref 181, Value.ref 182, Value.ref 183, Value.ref 184].set 23 (Value.int 1)))).set 151 (11, (([Value.int 0, Value.ref 152, Value.int 0, Value.int 0, Value.int 0, Value.int 0, Value.int 0, Value.ref 153, Value.ref 154, Value.ref 155, Value.ref 156, Value.ref 157, Value.ref 158, Value.ref 159, Value.int 0, Value.ref 160, Value.ref 161, Value.ref 162, Value.int 0, Value.int 99, Value.ref 163, Value.ref 164, Value.ref 165, Value.int 0, Value.int 0, Value.ref 166, Value.ref 167, Value.ref 168, Value.ref 169, Value.ref 170, Value.int 0, Value.int 0, Value.ref 171, Value.ref 172, Value.ref 173, Value.int 0, Value.int 0, Value.ref 174, Value.ref 175, Value.ref 176, Value.ref 177, Value.ref 178, Value.int 0, Value.ref 179, Value.int 0, Value.ref 180, Value.ref 181, Value.ref 182, Value.ref 183, Value.ref 184].set 23 (Value.int 1)).set 18 (Value.int c)))) _
                          refine s_ek_bk 1 (P := 153) (ls' := [(0, .ref 151), (1, .int 0), (2, .int 3), (3, .int c)]) (st' := [.int 0]) (M' := (((((((((s_M0.set 75 (13, ((List.replicate 40 (Value.int 0)).set 0 (Value.int 3)))).set 77 (13, ((List.replicate 40 (Value.int 0)).set 0 (Value.int c)))).set 73 (1, ([Value.int 0, Value.int 0, Value.ref 74, Value.ref 75, Value.ref 76, Value.ref 77].set 0 (Value.int 1)))).set 73 (1, (([Value.int 0, Value.int 0, Value.ref 74, Value.ref 75, Value.ref 76, Value.ref 77].set 0 (Value.int 1)).set 1 (Value.int 1)))).set 8 (3, ([Value.ref 9, Value.int 0, Value.int 0, Value.int 99, Value.int 0, Value.ref 14, Value.ref 15, Value.ref 20, Value.ref 21, Value.ref 22].set 2 (Value.int c)))).set 166 (13, ((List.replicate 40 (Value.int 0)).set 0 (Value.int 3)))).set 169 (13, ((List.replicate 40 (Value.int 0)).set 0 (Value.int c)))).set 151 (11, ([Value.int 0, Value.ref 152, Value.int 0, Value.int 0, Value.int 0, Value.int 0, Value.int 0, Value.ref 153, Value.ref 154, Value.ref 155, Value.ref 156, Value.ref 157, Value.ref 158, Value.ref 159, Value.int 0, Value.ref 160, Value.ref 161, Value.ref 162, Value.int 0, Value.int 99, Value.ref 163, Value.ref 164, Value.ref 165, Value.int 0, Value.int 0, Value.ref 166, Value.ref 167, Value.ref 168, Value.ref 169, Value.ref 170, Value.int 0, Value.int 0, Value.ref 171, Value.ref 172, Value.ref 173, Value.int 0, Value.int 0, Value.ref 174, Value.ref 175, Value.ref 176, Value.ref 177, Value.ref 178, Value.int 0, Value.ref 179, Value.int 0, Value.ref 180, Value.ref 181, Value.ref 182, Value.ref 183, Value.ref 184].set 23 (Value.int 1)))).set 151 (11, (([Value.int 0, Value.ref 152, Value.int 0, Value.int 0, Value.int 0, Value.int 0, Value.int 0, Value.ref 153, Value.ref 154, Value.ref 155, Value.ref 156, Value.ref 157, Value.ref 158, Value.ref 159, Value.int 0, Value.ref 160, Value.ref 161, Value.ref 162, Value.int 0, Value.int 99, Value.ref 163, Value.ref 164, Value.ref 165, Value.int 0, Value.int 0, Value.ref 166, Value.ref 167, Value.ref 168, Value.ref 169, Value.ref 170, Value.int 0, Value.int 0, Value.ref 171, Value.ref 172, Value.ref 173, Value.int 0, Value.int 0, Value.ref 174, Value.ref 175, Value.ref 176, Value.ref 177, Value.ref 178, Value.int 0, Value.ref 179, Value.int 0, Value.ref 180, Value.ref 181, Value.ref 182, Value.ref 183, Value.ref 184].set 23 (Value.int 1)).set 18 (Value.int c))))) rfl ?_
                          refine s_ek_ret (o := some (.int 0)) (fun _ => rfl) ?_
                          exact rfl
                        · replace h11 : ¬ (¬ 0 = c.toInt) := h11
                          replace h11 : c.toInt = 0 := by omega
                          omega
      · refine s_ek_bk 2 (P := 126) (ls' := [(0, .ref 0), (1, .int a), (2, .int 4), (3, .int c)]) (st' := [.int a]) (M' := s_M0) rfl ?_
        refine s_ek_if1 (T := 140) rfl rfl (fun h3 => ?_) (fun h3 => ?_)
        · replace h3 : ¬ a.toInt = 0 := h3
          refine s_ek_bk 1 (P := 141) (ls' := [(0, .ref 0), (1, .int a), (2, .int 4), (3, .int c)]) (st' := [.int 0]) (M' := s_M0) rfl ?_
          refine s_ek_ret (o := some (.int 0)) (fun _ => rfl) ?_
          show s_Ek (s_rows 3 L xs) 1299 s_e138.1 7 [(0, .ref 0), (1, .int a), (2, .int 4), (3, .int c)] [.int 0] s_M0 _
          refine s_ek_bk 2 (P := 12) (ls' := [(0, .ref 0), (1, .int a), (2, .int 4), (3, .int c)]) (st' := [.int (-2000000000)]) (M' := s_M0) rfl ?_
          refine s_ek_ret (o := some (.int (-2000000000))) (fun _ => rfl) ?_
          refine ⟨(-2000000000), rfl, ?_⟩
          show s_Ek (s_rows 3 L xs) 1299 s_e213.1 0 [(0, .ref 151), (1, .int a), (2, .int 4), (3, .int c)] [] s_M0 _
          refine s_ek_bk 3 (P := 155) (ls' := [(0, .ref 151), (1, .int a), (2, .int 4), (3, .int c)]) (st' := [.int a]) (M' := s_M0) rfl ?_
          refine s_ek_if1 (T := 178) rfl rfl (fun h4 => ?_) (fun h4 => ?_)
          · replace h4 : ¬ a.toInt = 0 := h4
            refine s_ek_bk 1 (P := 180) (ls' := [(0, .ref 151), (1, .int a), (2, .int 4), (3, .int c)]) (st' := [.int (-2000000000)]) (M' := s_M0) rfl ?_
            refine s_ek_ret (o := some (.int (-2000000000))) (fun _ => rfl) ?_
            exact rfl
          · replace h4 : ¬ (¬ a.toInt = 0) := h4
            replace h4 : a.toInt = 0 := by omega
            omega
        · replace h3 : ¬ (¬ a.toInt = 0) := h3
          replace h3 : a.toInt = 0 := by omega
          refine s_ek_bk 1 (P := 130) (ls' := [(0, .ref 0), (1, .int a), (2, .int 4), (3, .int c)]) (st' := [.int c]) (M' := s_M0) rfl ?_
          refine s_ek_call (ν := s_e169.1) (P := 133) (as := [.int c]) (r := []) (fun _ => rfl) rfl ?_
          show s_Ek (s_rows 3 L xs) 1297 s_e169.1 0 [(0, .int c)] [] s_M0 _
          refine s_ek_bk 1 (P := 1) (ls' := [(0, .int c)]) (st' := [.int c]) (M' := s_M0) rfl ?_
          refine s_ek_if1 (T := 14) rfl rfl (fun h4 => ?_) (fun h4 => ?_)
          · replace h4 : c.toInt < 0 := h4
            refine s_ek_bk 1 (P := 15) (ls' := [(0, .int c)]) (st' := [.int 0]) (M' := s_M0) rfl ?_
            refine s_ek_ret (o := some (.int 0)) (fun _ => rfl) ?_
            show s_Ek (s_rows 3 L xs) 1298 s_e139.1 133 [(0, .ref 0), (1, .int a), (2, .int 4), (3, .int c)] [.int 0] s_M0 _
            refine s_ek_bk 2 (P := 141) (ls' := [(0, .ref 0), (1, .int a), (2, .int 4), (3, .int c)]) (st' := [.int 0]) (M' := s_M0) rfl ?_
            refine s_ek_ret (o := some (.int 0)) (fun _ => rfl) ?_
            show s_Ek (s_rows 3 L xs) 1299 s_e138.1 7 [(0, .ref 0), (1, .int a), (2, .int 4), (3, .int c)] [.int 0] s_M0 _
            refine s_ek_bk 2 (P := 12) (ls' := [(0, .ref 0), (1, .int a), (2, .int 4), (3, .int c)]) (st' := [.int (-2000000000)]) (M' := s_M0) rfl ?_
            refine s_ek_ret (o := some (.int (-2000000000))) (fun _ => rfl) ?_
            refine ⟨(-2000000000), rfl, ?_⟩
            show s_Ek (s_rows 3 L xs) 1299 s_e213.1 0 [(0, .ref 151), (1, .int a), (2, .int 4), (3, .int c)] [] s_M0 _
            refine s_ek_bk 3 (P := 155) (ls' := [(0, .ref 151), (1, .int a), (2, .int 4), (3, .int c)]) (st' := [.int a]) (M' := s_M0) rfl ?_
            refine s_ek_if1 (T := 178) rfl rfl (fun h5 => ?_) (fun h5 => ?_)
            · replace h5 : ¬ a.toInt = 0 := h5
              omega
            · replace h5 : ¬ (¬ a.toInt = 0) := h5
              replace h5 : a.toInt = 0 := by omega
              refine s_ek_bk 3 (P := 162) (ls' := [(0, .ref 151), (1, .int a), (2, .int 4), (3, .int c)]) (st' := [.int 99, .int 0, .int c]) (M' := s_M0) rfl ?_
              refine s_ek_call (ν := s_e181.1) (P := 165) (as := [.int c, .int 0, .int 99]) (r := []) (fun _ => rfl) rfl ?_
              show s_Ek (s_rows 3 L xs) 1298 s_e181.1 0 [(0, .int c), (1, .int 0), (2, .int 99)] [] s_M0 _
              refine s_ek_bk 2 (P := 2) (ls' := [(0, .int c), (1, .int 0), (2, .int 99)]) (st' := [.int 0, .int c]) (M' := s_M0) rfl ?_
              refine s_ek_if2 (T := 14) rfl rfl (fun h6 => ?_) (fun h6 => ?_)
              · replace h6 : c.toInt < 0 := h6
                refine s_ek_bk 1 (P := 15) (ls' := [(0, .int c), (1, .int 0), (2, .int 99)]) (st' := [.int 0]) (M' := s_M0) rfl ?_
                refine s_ek_ret (o := some (.int 0)) (fun _ => rfl) ?_
                show s_Ek (s_rows 3 L xs) 1299 s_e213.1 165 [(0, .ref 151), (1, .int a), (2, .int 4), (3, .int c)] [.int 0] s_M0 _
                refine s_ek_bk 2 (P := 180) (ls' := [(0, .ref 151), (1, .int a), (2, .int 4), (3, .int c)]) (st' := [.int (-2000000000)]) (M' := s_M0) rfl ?_
                refine s_ek_ret (o := some (.int (-2000000000))) (fun _ => rfl) ?_
                exact rfl
              · replace h6 : ¬ (c.toInt < 0) := h6
                replace h6 : 0 ≤ c.toInt := by omega
                omega
          · replace h4 : ¬ (c.toInt < 0) := h4
            replace h4 : 0 ≤ c.toInt := by omega
            refine s_ek_bk 2 (P := 7) (ls' := [(0, .int c)]) (st' := [.int 99, .int c]) (M' := s_M0) rfl ?_
            refine s_ek_if2 (T := 14) rfl rfl (fun h5 => ?_) (fun h5 => ?_)
            · replace h5 : 99 < c.toInt := h5
              refine s_ek_bk 1 (P := 15) (ls' := [(0, .int c)]) (st' := [.int 0]) (M' := s_M0) rfl ?_
              refine s_ek_ret (o := some (.int 0)) (fun _ => rfl) ?_
              show s_Ek (s_rows 3 L xs) 1298 s_e139.1 133 [(0, .ref 0), (1, .int a), (2, .int 4), (3, .int c)] [.int 0] s_M0 _
              refine s_ek_bk 2 (P := 141) (ls' := [(0, .ref 0), (1, .int a), (2, .int 4), (3, .int c)]) (st' := [.int 0]) (M' := s_M0) rfl ?_
              refine s_ek_ret (o := some (.int 0)) (fun _ => rfl) ?_
              show s_Ek (s_rows 3 L xs) 1299 s_e138.1 7 [(0, .ref 0), (1, .int a), (2, .int 4), (3, .int c)] [.int 0] s_M0 _
              refine s_ek_bk 2 (P := 12) (ls' := [(0, .ref 0), (1, .int a), (2, .int 4), (3, .int c)]) (st' := [.int (-2000000000)]) (M' := s_M0) rfl ?_
              refine s_ek_ret (o := some (.int (-2000000000))) (fun _ => rfl) ?_
              refine ⟨(-2000000000), rfl, ?_⟩
              show s_Ek (s_rows 3 L xs) 1299 s_e213.1 0 [(0, .ref 151), (1, .int a), (2, .int 4), (3, .int c)] [] s_M0 _
              refine s_ek_bk 3 (P := 155) (ls' := [(0, .ref 151), (1, .int a), (2, .int 4), (3, .int c)]) (st' := [.int a]) (M' := s_M0) rfl ?_
              refine s_ek_if1 (T := 178) rfl rfl (fun h6 => ?_) (fun h6 => ?_)
              · replace h6 : ¬ a.toInt = 0 := h6
                omega
              · replace h6 : ¬ (¬ a.toInt = 0) := h6
                replace h6 : a.toInt = 0 := by omega
                refine s_ek_bk 3 (P := 162) (ls' := [(0, .ref 151), (1, .int a), (2, .int 4), (3, .int c)]) (st' := [.int 99, .int 0, .int c]) (M' := s_M0) rfl ?_
                refine s_ek_call (ν := s_e181.1) (P := 165) (as := [.int c, .int 0, .int 99]) (r := []) (fun _ => rfl) rfl ?_
                show s_Ek (s_rows 3 L xs) 1298 s_e181.1 0 [(0, .int c), (1, .int 0), (2, .int 99)] [] s_M0 _
                refine s_ek_bk 2 (P := 2) (ls' := [(0, .int c), (1, .int 0), (2, .int 99)]) (st' := [.int 0, .int c]) (M' := s_M0) rfl ?_
                refine s_ek_if2 (T := 14) rfl rfl (fun h7 => ?_) (fun h7 => ?_)
                · replace h7 : c.toInt < 0 := h7
                  omega
                · replace h7 : ¬ (c.toInt < 0) := h7
                  replace h7 : 0 ≤ c.toInt := by omega
                  refine s_ek_bk 2 (P := 7) (ls' := [(0, .int c), (1, .int 0), (2, .int 99)]) (st' := [.int 99, .int c]) (M' := s_M0) rfl ?_
                  refine s_ek_if2 (T := 14) rfl rfl (fun h8 => ?_) (fun h8 => ?_)
                  · replace h8 : 99 < c.toInt := h8
                    refine s_ek_bk 1 (P := 15) (ls' := [(0, .int c), (1, .int 0), (2, .int 99)]) (st' := [.int 0]) (M' := s_M0) rfl ?_
                    refine s_ek_ret (o := some (.int 0)) (fun _ => rfl) ?_
                    show s_Ek (s_rows 3 L xs) 1299 s_e213.1 165 [(0, .ref 151), (1, .int a), (2, .int 4), (3, .int c)] [.int 0] s_M0 _
                    refine s_ek_bk 2 (P := 180) (ls' := [(0, .ref 151), (1, .int a), (2, .int 4), (3, .int c)]) (st' := [.int (-2000000000)]) (M' := s_M0) rfl ?_
                    refine s_ek_ret (o := some (.int (-2000000000))) (fun _ => rfl) ?_
                    exact rfl
                  · replace h8 : ¬ (99 < c.toInt) := h8
                    replace h8 : c.toInt ≤ 99 := by omega
                    omega
            · replace h5 : ¬ (99 < c.toInt) := h5
              replace h5 : c.toInt ≤ 99 := by omega
              refine s_ek_bk 2 (P := 15) (ls' := [(0, .int c)]) (st' := [.int 1]) (M' := s_M0) rfl ?_
              refine s_ek_ret (o := some (.int 1)) (fun _ => rfl) ?_
              show s_Ek (s_rows 3 L xs) 1298 s_e139.1 133 [(0, .ref 0), (1, .int a), (2, .int 4), (3, .int c)] [.int 1] s_M0 _
              refine s_ek_bk 3 (P := 141) (ls' := [(0, .ref 0), (1, .int a), (2, .int 4), (3, .int c)]) (st' := [.int 1]) (M' := s_M0) rfl ?_
              refine s_ek_ret (o := some (.int 1)) (fun _ => rfl) ?_
              show s_Ek (s_rows 3 L xs) 1299 s_e138.1 7 [(0, .ref 0), (1, .int a), (2, .int 4), (3, .int c)] [.int 1] s_M0 _
              refine s_ek_bk 5 (P := 19) (ls' := [(0, .ref 0), (1, .int a), (2, .int 4), (3, .int c)]) (st' := [.int 4, .int a, .ref 8]) (M' := s_M0) rfl ?_
              refine s_ek_call (ν := s_e44.1) (P := 22) (as := [.ref 8, .int a, .int 4]) (r := []) (fun _ => rfl) rfl ?_
              show s_Ek (s_rows 3 L xs) 1298 s_e44.1 0 [(0, .ref 8), (1, .int a), (2, .int 4)] [] s_M0 _
              refine s_ek_bk 2 (P := 2) (ls' := [(0, .ref 8), (1, .int a), (2, .int 4)]) (st' := [.int a, .ref 8]) (M' := s_M0) rfl ?_
              refine s_ek_call (ν := s_e41.1) (P := 5) (as := [.ref 8, .int a]) (r := []) (fun _ => rfl) rfl ?_
              show s_Ek (s_rows 3 L xs) 1297 s_e41.1 0 [(0, .ref 8), (1, .int a)] [] s_M0 _
              refine s_ek_bk 1 (P := 1) (ls' := [(0, .ref 8), (1, .int a)]) (st' := [.int a]) (M' := s_M0) rfl ?_
              refine s_ek_if1 (T := 22) rfl rfl (fun h6 => ?_) (fun h6 => ?_)
              · replace h6 : a.toInt < 0 := h6
                omega
              · replace h6 : ¬ (a.toInt < 0) := h6
                replace h6 : 0 ≤ a.toInt := by omega
                refine s_ek_bk 4 (P := 10) (ls' := [(0, .ref 8), (1, .int a)]) (st' := [.int 10, .int a]) (M' := s_M0) rfl ?_
                refine s_ek_if2 (T := 22) rfl rfl (fun h7 => ?_) (fun h7 => ?_)
                · replace h7 : 10 ≤ a.toInt := h7
                  omega
                · replace h7 : ¬ (10 ≤ a.toInt) := h7
                  replace h7 : a.toInt < 10 := by omega
                  refine s_ek_bk 3 (P := 18) (ls' := [(0, .ref 8), (1, .int a)]) (st' := [.int a, .ref 14]) (M' := s_M0) rfl ?_
                  obtain rfl : a = 0 := s_pin (k := 0) (by omega) (by decide)
                  refine s_ek_bk 6 (P := 33) (ls' := [(0, .ref 8), (1, .int 0)]) (st' := [.ref 23]) (M' := s_M0) rfl ?_
                  refine s_ek_ret (o := some (.ref 23)) (fun _ => rfl) ?_
                  show s_Ek (s_rows 3 L xs) 1298 s_e44.1 5 [(0, .ref 8), (1, .int 0), (2, .int 4)] [.ref 23] s_M0 _
                  refine s_ek_bk 5 (P := 60) (ls' := [(3, .ref 23), (0, .ref 8), (1, .int 0), (2, .int 4)]) (st' := [.int 99]) (M' := s_M0) rfl ?_
                  refine s_ek_ret (o := some (.int 99)) (fun _ => rfl) ?_
                  show s_Ek (s_rows 3 L xs) 1299 s_e138.1 22 [(0, .ref 0), (1, .int 0), (2, .int 4), (3, .int c)] [.int 99] s_M0 _
                  refine s_ek_bk 3 (P := 27) (ls' := [(4, .int 99), (0, .ref 0), (1, .int 0), (2, .int 4), (3, .int c)]) (st' := [.int c, .int 99]) (M' := s_M0) rfl ?_
                  refine s_ek_if2 (T := 52) rfl rfl (fun h8 => ?_) (fun h8 => ?_)
                  · replace h8 : 99 = c.toInt := h8
                    replace h8 : c.toInt = 99 := by omega
                    refine s_ek_bk 1 (P := 54) (ls' := [(4, .int 99), (0, .ref 0), (1, .int 0), (2, .int 4), (3, .int c)]) (st' := [.int 99]) (M' := s_M0) rfl ?_
                    refine s_ek_ret (o := some (.int 99)) (fun _ => rfl) ?_
                    refine ⟨99, rfl, ?_⟩
                    show s_Ek (s_rows 3 L xs) 1299 s_e213.1 0 [(0, .ref 151), (1, .int 0), (2, .int 4), (3, .int c)] [] s_M0 _
                    refine s_ek_bk 7 (P := 162) (ls' := [(0, .ref 151), (1, .int 0), (2, .int 4), (3, .int c)]) (st' := [.int 99, .int 0, .int c]) (M' := s_M0) rfl ?_
                    refine s_ek_call (ν := s_e181.1) (P := 165) (as := [.int c, .int 0, .int 99]) (r := []) (fun _ => rfl) rfl ?_
                    show s_Ek (s_rows 3 L xs) 1298 s_e181.1 0 [(0, .int c), (1, .int 0), (2, .int 99)] [] s_M0 _
                    refine s_ek_bk 2 (P := 2) (ls' := [(0, .int c), (1, .int 0), (2, .int 99)]) (st' := [.int 0, .int c]) (M' := s_M0) rfl ?_
                    refine s_ek_if2 (T := 14) rfl rfl (fun h9 => ?_) (fun h9 => ?_)
                    · replace h9 : c.toInt < 0 := h9
                      omega
                    · replace h9 : ¬ (c.toInt < 0) := h9
                      replace h9 : 0 ≤ c.toInt := by omega
                      refine s_ek_bk 2 (P := 7) (ls' := [(0, .int c), (1, .int 0), (2, .int 99)]) (st' := [.int 99, .int c]) (M' := s_M0) rfl ?_
                      refine s_ek_if2 (T := 14) rfl rfl (fun h10 => ?_) (fun h10 => ?_)
                      · replace h10 : 99 < c.toInt := h10
                        omega
                      · replace h10 : ¬ (99 < c.toInt) := h10
                        replace h10 : c.toInt ≤ 99 := by omega
                        refine s_ek_bk 2 (P := 15) (ls' := [(0, .int c), (1, .int 0), (2, .int 99)]) (st' := [.int 1]) (M' := s_M0) rfl ?_
                        refine s_ek_ret (o := some (.int 1)) (fun _ => rfl) ?_
                        show s_Ek (s_rows 3 L xs) 1299 s_e213.1 165 [(0, .ref 151), (1, .int 0), (2, .int 4), (3, .int c)] [.int 1] s_M0 _
                        refine s_ek_bk 5 (P := 172) (ls' := [(0, .ref 151), (1, .int 0), (2, .int 4), (3, .int c)]) (st' := [.int c, .int 0, .int 4, .ref 151]) (M' := s_M0) rfl ?_
                        refine s_ek_call (ν := s_e210.1) (P := 175) (as := [.ref 151, .int 4, .int 0, .int c]) (r := []) (fun _ => rfl) rfl ?_
                        show s_Ek (s_rows 3 L xs) 1298 s_e210.1 0 [(0, .ref 151), (1, .int 4), (2, .int 0), (3, .int c)] [] s_M0 _
                        refine s_ek_bk 3 (P := 3) (ls' := [(0, .ref 151), (1, .int 4), (2, .int 0), (3, .int c)]) (st' := [.int 0, .int 4, .ref 151]) (M' := s_M0) rfl ?_
                        refine s_ek_call (ν := s_e208.1) (P := 6) (as := [.ref 151, .int 4, .int 0]) (r := []) (fun _ => rfl) rfl ?_
                        show s_Ek (s_rows 3 L xs) 1297 s_e208.1 0 [(0, .ref 151), (1, .int 4), (2, .int 0)] [] s_M0 _
                        refine s_ek_bk 13 (P := 57) (ls' := [(0, .ref 151), (1, .int 4), (2, .int 0)]) (st' := [.int 99]) (M' := s_M0) rfl ?_
                        refine s_ek_ret (o := some (.int 99)) (fun _ => rfl) ?_
                        show s_Ek (s_rows 3 L xs) 1298 s_e210.1 6 [(0, .ref 151), (1, .int 4), (2, .int 0), (3, .int c)] [.int 99] s_M0 _
                        refine s_ek_bk 3 (P := 11) (ls' := [(4, .int 99), (0, .ref 151), (1, .int 4), (2, .int 0), (3, .int c)]) (st' := [.int c, .int 99]) (M' := s_M0) rfl ?_
                        refine s_ek_if2 (T := 17) rfl rfl (fun h11 => ?_) (fun h11 => ?_)
                        · replace h11 : ¬ 99 = c.toInt := h11
                          replace h11 : ¬ c.toInt = 99 := by omega
                          omega
                        · replace h11 : ¬ (¬ 99 = c.toInt) := h11
                          replace h11 : c.toInt = 99 := by omega
                          refine s_ek_bk 1 (P := 16) (ls' := [(4, .int 99), (0, .ref 151), (1, .int 4), (2, .int 0), (3, .int c)]) (st' := [.int 99]) (M' := s_M0) rfl ?_
                          refine s_ek_ret (o := some (.int 99)) (fun _ => rfl) ?_
                          show s_Ek (s_rows 3 L xs) 1299 s_e213.1 175 [(0, .ref 151), (1, .int 0), (2, .int 4), (3, .int c)] [.int 99] s_M0 _
                          refine s_ek_bk 1 (P := 180) (ls' := [(0, .ref 151), (1, .int 0), (2, .int 4), (3, .int c)]) (st' := [.int 99]) (M' := s_M0) rfl ?_
                          refine s_ek_ret (o := some (.int 99)) (fun _ => rfl) ?_
                          exact rfl
                  · replace h8 : ¬ (99 = c.toInt) := h8
                    replace h8 : ¬ c.toInt = 99 := by omega
                    refine s_ek_bk 6 (P := 39) (ls' := [(4, .int 99), (0, .ref 0), (1, .int 0), (2, .int 4), (3, .int c)]) (st' := [.int c, .int 99, .int 4, .int 0, .ref 73]) (M' := s_M0) rfl ?_
                    refine s_ek_call (ν := s_e13.1) (P := 42) (as := [.ref 73, .int 0, .int 4, .int 99, .int c]) (r := []) (fun _ => rfl) rfl ?_
                    show s_Ek (s_rows 3 L xs) 1298 s_e13.1 0 [(0, .ref 73), (1, .int 0), (2, .int 4), (3, .int 99), (4, .int c)] [] s_M0 _
                    refine s_ek_bk 17 (P := 40) (ls' := [(0, .ref 73), (1, .int 0), (2, .int 4), (3, .int 99), (4, .int c)]) (st' := []) (M' := s_M0) rfl ?_
                    refine s_ek_bk 6 (P := 50) (ls' := [(0, .ref 73), (1, .int 0), (2, .int 4), (3, .int 99), (4, .int c)]) (st' := []) (M' := (s_M0.set 75 (13, ((List.replicate 40 (Value.int 0)).set 0 (Value.int 4))))) rfl ?_
                    refine s_ek_bk 6 (P := 60) (ls' := [(0, .ref 73), (1, .int 0), (2, .int 4), (3, .int 99), (4, .int c)]) (st' := []) (M' := ((s_M0.set 75 (13, ((List.replicate 40 (Value.int 0)).set 0 (Value.int 4)))).set 76 (13, ((List.replicate 40 (Value.int 0)).set 0 (Value.int 99))))) rfl ?_
                    refine s_ek_bk 6 (P := 71) (ls' := [(0, .ref 73), (1, .int 0), (2, .int 4), (3, .int 99), (4, .int c)]) (st' := []) (M' := (((s_M0.set 75 (13, ((List.replicate 40 (Value.int 0)).set 0 (Value.int 4)))).set 76 (13, ((List.replicate 40 (Value.int 0)).set 0 (Value.int 99)))).set 77 (13, ((List.replicate 40 (Value.int 0)).set 0 (Value.int c))))) rfl ?_
                    refine s_ek_bk 6 (P := 81) (ls' := [(0, .ref 73), (1, .int 0), (2, .int 4), (3, .int 99), (4, .int c)]) (st' := []) (M' := ((((s_M0.set 75 (13, ((List.replicate 40 (Value.int 0)).set 0 (Value.int 4)))).set 76 (13, ((List.replicate 40 (Value.int 0)).set 0 (Value.int 99)))).set 77 (13, ((List.replicate 40 (Value.int 0)).set 0 (Value.int c)))).set 73 (1, ([Value.int 0, Value.int 0, Value.ref 74, Value.ref 75, Value.ref 76, Value.ref 77].set 0 (Value.int 1))))) rfl ?_
                    refine s_ek_bk 4 (P := 89) (ls' := [(0, .ref 73), (1, .int 0), (2, .int 4), (3, .int 99), (4, .int c)]) (st' := []) (M' := (((((s_M0.set 75 (13, ((List.replicate 40 (Value.int 0)).set 0 (Value.int 4)))).set 76 (13, ((List.replicate 40 (Value.int 0)).set 0 (Value.int 99)))).set 77 (13, ((List.replicate 40 (Value.int 0)).set 0 (Value.int c)))).set 73 (1, ([Value.int 0, Value.int 0, Value.ref 74, Value.ref 75, Value.ref 76, Value.ref 77].set 0 (Value.int 1)))).set 73 (1, (([Value.int 0, Value.int 0, Value.ref 74, Value.ref 75, Value.ref 76, Value.ref 77].set 0 (Value.int 1)).set 1 (Value.int 1))))) rfl ?_
                    refine s_ek_ret (o := none) (fun _ => rfl) ?_
                    show s_Ek (s_rows 3 L xs) 1299 s_e138.1 42 [(4, .int 99), (0, .ref 0), (1, .int 0), (2, .int 4), (3, .int c)] [] (((((s_M0.set 75 (13, ((List.replicate 40 (Value.int 0)).set 0 (Value.int 4)))).set 76 (13, ((List.replicate 40 (Value.int 0)).set 0 (Value.int 99)))).set 77 (13, ((List.replicate 40 (Value.int 0)).set 0 (Value.int c)))).set 73 (1, ([Value.int 0, Value.int 0, Value.ref 74, Value.ref 75, Value.ref 76, Value.ref 77].set 0 (Value.int 1)))).set 73 (1, (([Value.int 0, Value.int 0, Value.ref 74, Value.ref 75, Value.ref 76, Value.ref 77].set 0 (Value.int 1)).set 1 (Value.int 1)))) _
                    refine s_ek_bk 5 (P := 49) (ls' := [(4, .int 99), (0, .ref 0), (1, .int 0), (2, .int 4), (3, .int c)]) (st' := [.int c, .int 4, .int 0, .ref 8]) (M' := (((((s_M0.set 75 (13, ((List.replicate 40 (Value.int 0)).set 0 (Value.int 4)))).set 76 (13, ((List.replicate 40 (Value.int 0)).set 0 (Value.int 99)))).set 77 (13, ((List.replicate 40 (Value.int 0)).set 0 (Value.int c)))).set 73 (1, ([Value.int 0, Value.int 0, Value.ref 74, Value.ref 75, Value.ref 76, Value.ref 77].set 0 (Value.int 1)))).set 73 (1, (([Value.int 0, Value.int 0, Value.ref 74, Value.ref 75, Value.ref 76, Value.ref 77].set 0 (Value.int 1)).set 1 (Value.int 1))))) rfl ?_
                    refine s_ek_call (ν := s_e45.1) (P := 52) (as := [.ref 8, .int 0, .int 4, .int c]) (r := []) (fun _ => rfl) rfl ?_
                    show s_Ek (s_rows 3 L xs) 1298 s_e45.1 0 [(0, .ref 8), (1, .int 0), (2, .int 4), (3, .int c)] [] (((((s_M0.set 75 (13, ((List.replicate 40 (Value.int 0)).set 0 (Value.int 4)))).set 76 (13, ((List.replicate 40 (Value.int 0)).set 0 (Value.int 99)))).set 77 (13, ((List.replicate 40 (Value.int 0)).set 0 (Value.int c)))).set 73 (1, ([Value.int 0, Value.int 0, Value.ref 74, Value.ref 75, Value.ref 76, Value.ref 77].set 0 (Value.int 1)))).set 73 (1, (([Value.int 0, Value.int 0, Value.ref 74, Value.ref 75, Value.ref 76, Value.ref 77].set 0 (Value.int 1)).set 1 (Value.int 1)))) _
                    refine s_ek_bk 2 (P := 2) (ls' := [(0, .ref 8), (1, .int 0), (2, .int 4), (3, .int c)]) (st' := [.int 0, .ref 8]) (M' := (((((s_M0.set 75 (13, ((List.replicate 40 (Value.int 0)).set 0 (Value.int 4)))).set 76 (13, ((List.replicate 40 (Value.int 0)).set 0 (Value.int 99)))).set 77 (13, ((List.replicate 40 (Value.int 0)).set 0 (Value.int c)))).set 73 (1, ([Value.int 0, Value.int 0, Value.ref 74, Value.ref 75, Value.ref 76, Value.ref 77].set 0 (Value.int 1)))).set 73 (1, (([Value.int 0, Value.int 0, Value.ref 74, Value.ref 75, Value.ref 76, Value.ref 77].set 0 (Value.int 1)).set 1 (Value.int 1))))) rfl ?_
                    refine s_ek_call (ν := s_e41.1) (P := 5) (as := [.ref 8, .int 0]) (r := []) (fun _ => rfl) rfl ?_
                    show s_Ek (s_rows 3 L xs) 1297 s_e41.1 0 [(0, .ref 8), (1, .int 0)] [] (((((s_M0.set 75 (13, ((List.replicate 40 (Value.int 0)).set 0 (Value.int 4)))).set 76 (13, ((List.replicate 40 (Value.int 0)).set 0 (Value.int 99)))).set 77 (13, ((List.replicate 40 (Value.int 0)).set 0 (Value.int c)))).set 73 (1, ([Value.int 0, Value.int 0, Value.ref 74, Value.ref 75, Value.ref 76, Value.ref 77].set 0 (Value.int 1)))).set 73 (1, (([Value.int 0, Value.int 0, Value.ref 74, Value.ref 75, Value.ref 76, Value.ref 77].set 0 (Value.int 1)).set 1 (Value.int 1)))) _
                    refine s_ek_bk 16 (P := 33) (ls' := [(0, .ref 8), (1, .int 0)]) (st' := [.ref 23]) (M' := (((((s_M0.set 75 (13, ((List.replicate 40 (Value.int 0)).set 0 (Value.int 4)))).set 76 (13, ((List.replicate 40 (Value.int 0)).set 0 (Value.int 99)))).set 77 (13, ((List.replicate 40 (Value.int 0)).set 0 (Value.int c)))).set 73 (1, ([Value.int 0, Value.int 0, Value.ref 74, Value.ref 75, Value.ref 76, Value.ref 77].set 0 (Value.int 1)))).set 73 (1, (([Value.int 0, Value.int 0, Value.ref 74, Value.ref 75, Value.ref 76, Value.ref 77].set 0 (Value.int 1)).set 1 (Value.int 1))))) rfl ?_
                    refine s_ek_ret (o := some (.ref 23)) (fun _ => rfl) ?_
                    show s_Ek (s_rows 3 L xs) 1298 s_e45.1 5 [(0, .ref 8), (1, .int 0), (2, .int 4), (3, .int c)] [.ref 23] (((((s_M0.set 75 (13, ((List.replicate 40 (Value.int 0)).set 0 (Value.int 4)))).set 76 (13, ((List.replicate 40 (Value.int 0)).set 0 (Value.int 99)))).set 77 (13, ((List.replicate 40 (Value.int 0)).set 0 (Value.int c)))).set 73 (1, ([Value.int 0, Value.int 0, Value.ref 74, Value.ref 75, Value.ref 76, Value.ref 77].set 0 (Value.int 1)))).set 73 (1, (([Value.int 0, Value.int 0, Value.ref 74, Value.ref 75, Value.ref 76, Value.ref 77].set 0 (Value.int 1)).set 1 (Value.int 1)))) _
                    refine s_ek_bk 6 (P := 80) (ls' := [(4, .ref 23), (0, .ref 8), (1, .int 0), (2, .int 4), (3, .int c)]) (st' := []) (M' := ((((((s_M0.set 75 (13, ((List.replicate 40 (Value.int 0)).set 0 (Value.int 4)))).set 76 (13, ((List.replicate 40 (Value.int 0)).set 0 (Value.int 99)))).set 77 (13, ((List.replicate 40 (Value.int 0)).set 0 (Value.int c)))).set 73 (1, ([Value.int 0, Value.int 0, Value.ref 74, Value.ref 75, Value.ref 76, Value.ref 77].set 0 (Value.int 1)))).set 73 (1, (([Value.int 0, Value.int 0, Value.ref 74, Value.ref 75, Value.ref 76, Value.ref 77].set 0 (Value.int 1)).set 1 (Value.int 1)))).set 8 (3, ([Value.ref 9, Value.int 0, Value.int 0, Value.int 99, Value.int 0, Value.ref 14, Value.ref 15, Value.ref 20, Value.ref 21, Value.ref 22].set 3 (Value.int c))))) rfl ?_
                    refine s_ek_ret (o := none) (fun _ => rfl) ?_
                    show s_Ek (s_rows 3 L xs) 1299 s_e138.1 52 [(4, .int 99), (0, .ref 0), (1, .int 0), (2, .int 4), (3, .int c)] [] ((((((s_M0.set 75 (13, ((List.replicate 40 (Value.int 0)).set 0 (Value.int 4)))).set 76 (13, ((List.replicate 40 (Value.int 0)).set 0 (Value.int 99)))).set 77 (13, ((List.replicate 40 (Value.int 0)).set 0 (Value.int c)))).set 73 (1, ([Value.int 0, Value.int 0, Value.ref 74, Value.ref 75, Value.ref 76, Value.ref 77].set 0 (Value.int 1)))).set 73 (1, (([Value.int 0, Value.int 0, Value.ref 74, Value.ref 75, Value.ref 76, Value.ref 77].set 0 (Value.int 1)).set 1 (Value.int 1)))).set 8 (3, ([Value.ref 9, Value.int 0, Value.int 0, Value.int 99, Value.int 0, Value.ref 14, Value.ref 15, Value.ref 20, Value.ref 21, Value.ref 22].set 3 (Value.int c)))) _
                    refine s_ek_bk 1 (P := 54) (ls' := [(4, .int 99), (0, .ref 0), (1, .int 0), (2, .int 4), (3, .int c)]) (st' := [.int 99]) (M' := ((((((s_M0.set 75 (13, ((List.replicate 40 (Value.int 0)).set 0 (Value.int 4)))).set 76 (13, ((List.replicate 40 (Value.int 0)).set 0 (Value.int 99)))).set 77 (13, ((List.replicate 40 (Value.int 0)).set 0 (Value.int c)))).set 73 (1, ([Value.int 0, Value.int 0, Value.ref 74, Value.ref 75, Value.ref 76, Value.ref 77].set 0 (Value.int 1)))).set 73 (1, (([Value.int 0, Value.int 0, Value.ref 74, Value.ref 75, Value.ref 76, Value.ref 77].set 0 (Value.int 1)).set 1 (Value.int 1)))).set 8 (3, ([Value.ref 9, Value.int 0, Value.int 0, Value.int 99, Value.int 0, Value.ref 14, Value.ref 15, Value.ref 20, Value.ref 21, Value.ref 22].set 3 (Value.int c))))) rfl ?_
                    refine s_ek_ret (o := some (.int 99)) (fun _ => rfl) ?_
                    refine ⟨99, rfl, ?_⟩
                    show s_Ek (s_rows 3 L xs) 1299 s_e213.1 0 [(0, .ref 151), (1, .int 0), (2, .int 4), (3, .int c)] [] ((((((s_M0.set 75 (13, ((List.replicate 40 (Value.int 0)).set 0 (Value.int 4)))).set 76 (13, ((List.replicate 40 (Value.int 0)).set 0 (Value.int 99)))).set 77 (13, ((List.replicate 40 (Value.int 0)).set 0 (Value.int c)))).set 73 (1, ([Value.int 0, Value.int 0, Value.ref 74, Value.ref 75, Value.ref 76, Value.ref 77].set 0 (Value.int 1)))).set 73 (1, (([Value.int 0, Value.int 0, Value.ref 74, Value.ref 75, Value.ref 76, Value.ref 77].set 0 (Value.int 1)).set 1 (Value.int 1)))).set 8 (3, ([Value.ref 9, Value.int 0, Value.int 0, Value.int 99, Value.int 0, Value.ref 14, Value.ref 15, Value.ref 20, Value.ref 21, Value.ref 22].set 3 (Value.int c)))) _
                    refine s_ek_bk 7 (P := 162) (ls' := [(0, .ref 151), (1, .int 0), (2, .int 4), (3, .int c)]) (st' := [.int 99, .int 0, .int c]) (M' := ((((((s_M0.set 75 (13, ((List.replicate 40 (Value.int 0)).set 0 (Value.int 4)))).set 76 (13, ((List.replicate 40 (Value.int 0)).set 0 (Value.int 99)))).set 77 (13, ((List.replicate 40 (Value.int 0)).set 0 (Value.int c)))).set 73 (1, ([Value.int 0, Value.int 0, Value.ref 74, Value.ref 75, Value.ref 76, Value.ref 77].set 0 (Value.int 1)))).set 73 (1, (([Value.int 0, Value.int 0, Value.ref 74, Value.ref 75, Value.ref 76, Value.ref 77].set 0 (Value.int 1)).set 1 (Value.int 1)))).set 8 (3, ([Value.ref 9, Value.int 0, Value.int 0, Value.int 99, Value.int 0, Value.ref 14, Value.ref 15, Value.ref 20, Value.ref 21, Value.ref 22].set 3 (Value.int c))))) rfl ?_
                    refine s_ek_call (ν := s_e181.1) (P := 165) (as := [.int c, .int 0, .int 99]) (r := []) (fun _ => rfl) rfl ?_
                    show s_Ek (s_rows 3 L xs) 1298 s_e181.1 0 [(0, .int c), (1, .int 0), (2, .int 99)] [] ((((((s_M0.set 75 (13, ((List.replicate 40 (Value.int 0)).set 0 (Value.int 4)))).set 76 (13, ((List.replicate 40 (Value.int 0)).set 0 (Value.int 99)))).set 77 (13, ((List.replicate 40 (Value.int 0)).set 0 (Value.int c)))).set 73 (1, ([Value.int 0, Value.int 0, Value.ref 74, Value.ref 75, Value.ref 76, Value.ref 77].set 0 (Value.int 1)))).set 73 (1, (([Value.int 0, Value.int 0, Value.ref 74, Value.ref 75, Value.ref 76, Value.ref 77].set 0 (Value.int 1)).set 1 (Value.int 1)))).set 8 (3, ([Value.ref 9, Value.int 0, Value.int 0, Value.int 99, Value.int 0, Value.ref 14, Value.ref 15, Value.ref 20, Value.ref 21, Value.ref 22].set 3 (Value.int c)))) _
                    refine s_ek_bk 2 (P := 2) (ls' := [(0, .int c), (1, .int 0), (2, .int 99)]) (st' := [.int 0, .int c]) (M' := ((((((s_M0.set 75 (13, ((List.replicate 40 (Value.int 0)).set 0 (Value.int 4)))).set 76 (13, ((List.replicate 40 (Value.int 0)).set 0 (Value.int 99)))).set 77 (13, ((List.replicate 40 (Value.int 0)).set 0 (Value.int c)))).set 73 (1, ([Value.int 0, Value.int 0, Value.ref 74, Value.ref 75, Value.ref 76, Value.ref 77].set 0 (Value.int 1)))).set 73 (1, (([Value.int 0, Value.int 0, Value.ref 74, Value.ref 75, Value.ref 76, Value.ref 77].set 0 (Value.int 1)).set 1 (Value.int 1)))).set 8 (3, ([Value.ref 9, Value.int 0, Value.int 0, Value.int 99, Value.int 0, Value.ref 14, Value.ref 15, Value.ref 20, Value.ref 21, Value.ref 22].set 3 (Value.int c))))) rfl ?_
                    refine s_ek_if2 (T := 14) rfl rfl (fun h9 => ?_) (fun h9 => ?_)
                    · replace h9 : c.toInt < 0 := h9
                      omega
                    · replace h9 : ¬ (c.toInt < 0) := h9
                      replace h9 : 0 ≤ c.toInt := by omega
                      refine s_ek_bk 2 (P := 7) (ls' := [(0, .int c), (1, .int 0), (2, .int 99)]) (st' := [.int 99, .int c]) (M' := ((((((s_M0.set 75 (13, ((List.replicate 40 (Value.int 0)).set 0 (Value.int 4)))).set 76 (13, ((List.replicate 40 (Value.int 0)).set 0 (Value.int 99)))).set 77 (13, ((List.replicate 40 (Value.int 0)).set 0 (Value.int c)))).set 73 (1, ([Value.int 0, Value.int 0, Value.ref 74, Value.ref 75, Value.ref 76, Value.ref 77].set 0 (Value.int 1)))).set 73 (1, (([Value.int 0, Value.int 0, Value.ref 74, Value.ref 75, Value.ref 76, Value.ref 77].set 0 (Value.int 1)).set 1 (Value.int 1)))).set 8 (3, ([Value.ref 9, Value.int 0, Value.int 0, Value.int 99, Value.int 0, Value.ref 14, Value.ref 15, Value.ref 20, Value.ref 21, Value.ref 22].set 3 (Value.int c))))) rfl ?_
                      refine s_ek_if2 (T := 14) rfl rfl (fun h10 => ?_) (fun h10 => ?_)
                      · replace h10 : 99 < c.toInt := h10
                        omega
                      · replace h10 : ¬ (99 < c.toInt) := h10
                        replace h10 : c.toInt ≤ 99 := by omega
                        refine s_ek_bk 2 (P := 15) (ls' := [(0, .int c), (1, .int 0), (2, .int 99)]) (st' := [.int 1]) (M' := ((((((s_M0.set 75 (13, ((List.replicate 40 (Value.int 0)).set 0 (Value.int 4)))).set 76 (13, ((List.replicate 40 (Value.int 0)).set 0 (Value.int 99)))).set 77 (13, ((List.replicate 40 (Value.int 0)).set 0 (Value.int c)))).set 73 (1, ([Value.int 0, Value.int 0, Value.ref 74, Value.ref 75, Value.ref 76, Value.ref 77].set 0 (Value.int 1)))).set 73 (1, (([Value.int 0, Value.int 0, Value.ref 74, Value.ref 75, Value.ref 76, Value.ref 77].set 0 (Value.int 1)).set 1 (Value.int 1)))).set 8 (3, ([Value.ref 9, Value.int 0, Value.int 0, Value.int 99, Value.int 0, Value.ref 14, Value.ref 15, Value.ref 20, Value.ref 21, Value.ref 22].set 3 (Value.int c))))) rfl ?_
                        refine s_ek_ret (o := some (.int 1)) (fun _ => rfl) ?_
                        show s_Ek (s_rows 3 L xs) 1299 s_e213.1 165 [(0, .ref 151), (1, .int 0), (2, .int 4), (3, .int c)] [.int 1] ((((((s_M0.set 75 (13, ((List.replicate 40 (Value.int 0)).set 0 (Value.int 4)))).set 76 (13, ((List.replicate 40 (Value.int 0)).set 0 (Value.int 99)))).set 77 (13, ((List.replicate 40 (Value.int 0)).set 0 (Value.int c)))).set 73 (1, ([Value.int 0, Value.int 0, Value.ref 74, Value.ref 75, Value.ref 76, Value.ref 77].set 0 (Value.int 1)))).set 73 (1, (([Value.int 0, Value.int 0, Value.ref 74, Value.ref 75, Value.ref 76, Value.ref 77].set 0 (Value.int 1)).set 1 (Value.int 1)))).set 8 (3, ([Value.ref 9, Value.int 0, Value.int 0, Value.int 99, Value.int 0, Value.ref 14, Value.ref 15, Value.ref 20, Value.ref 21, Value.ref 22].set 3 (Value.int c)))) _
                        refine s_ek_bk 5 (P := 172) (ls' := [(0, .ref 151), (1, .int 0), (2, .int 4), (3, .int c)]) (st' := [.int c, .int 0, .int 4, .ref 151]) (M' := ((((((s_M0.set 75 (13, ((List.replicate 40 (Value.int 0)).set 0 (Value.int 4)))).set 76 (13, ((List.replicate 40 (Value.int 0)).set 0 (Value.int 99)))).set 77 (13, ((List.replicate 40 (Value.int 0)).set 0 (Value.int c)))).set 73 (1, ([Value.int 0, Value.int 0, Value.ref 74, Value.ref 75, Value.ref 76, Value.ref 77].set 0 (Value.int 1)))).set 73 (1, (([Value.int 0, Value.int 0, Value.ref 74, Value.ref 75, Value.ref 76, Value.ref 77].set 0 (Value.int 1)).set 1 (Value.int 1)))).set 8 (3, ([Value.ref 9, Value.int 0, Value.int 0, Value.int 99, Value.int 0, Value.ref 14, Value.ref 15, Value.ref 20, Value.ref 21, Value.ref 22].set 3 (Value.int c))))) rfl ?_
                        refine s_ek_call (ν := s_e210.1) (P := 175) (as := [.ref 151, .int 4, .int 0, .int c]) (r := []) (fun _ => rfl) rfl ?_
                        show s_Ek (s_rows 3 L xs) 1298 s_e210.1 0 [(0, .ref 151), (1, .int 4), (2, .int 0), (3, .int c)] [] ((((((s_M0.set 75 (13, ((List.replicate 40 (Value.int 0)).set 0 (Value.int 4)))).set 76 (13, ((List.replicate 40 (Value.int 0)).set 0 (Value.int 99)))).set 77 (13, ((List.replicate 40 (Value.int 0)).set 0 (Value.int c)))).set 73 (1, ([Value.int 0, Value.int 0, Value.ref 74, Value.ref 75, Value.ref 76, Value.ref 77].set 0 (Value.int 1)))).set 73 (1, (([Value.int 0, Value.int 0, Value.ref 74, Value.ref 75, Value.ref 76, Value.ref 77].set 0 (Value.int 1)).set 1 (Value.int 1)))).set 8 (3, ([Value.ref 9, Value.int 0, Value.int 0, Value.int 99, Value.int 0, Value.ref 14, Value.ref 15, Value.ref 20, Value.ref 21, Value.ref 22].set 3 (Value.int c)))) _
                        refine s_ek_bk 3 (P := 3) (ls' := [(0, .ref 151), (1, .int 4), (2, .int 0), (3, .int c)]) (st' := [.int 0, .int 4, .ref 151]) (M' := ((((((s_M0.set 75 (13, ((List.replicate 40 (Value.int 0)).set 0 (Value.int 4)))).set 76 (13, ((List.replicate 40 (Value.int 0)).set 0 (Value.int 99)))).set 77 (13, ((List.replicate 40 (Value.int 0)).set 0 (Value.int c)))).set 73 (1, ([Value.int 0, Value.int 0, Value.ref 74, Value.ref 75, Value.ref 76, Value.ref 77].set 0 (Value.int 1)))).set 73 (1, (([Value.int 0, Value.int 0, Value.ref 74, Value.ref 75, Value.ref 76, Value.ref 77].set 0 (Value.int 1)).set 1 (Value.int 1)))).set 8 (3, ([Value.ref 9, Value.int 0, Value.int 0, Value.int 99, Value.int 0, Value.ref 14, Value.ref 15, Value.ref 20, Value.ref 21, Value.ref 22].set 3 (Value.int c))))) rfl ?_
                        refine s_ek_call (ν := s_e208.1) (P := 6) (as := [.ref 151, .int 4, .int 0]) (r := []) (fun _ => rfl) rfl ?_
                        show s_Ek (s_rows 3 L xs) 1297 s_e208.1 0 [(0, .ref 151), (1, .int 4), (2, .int 0)] [] ((((((s_M0.set 75 (13, ((List.replicate 40 (Value.int 0)).set 0 (Value.int 4)))).set 76 (13, ((List.replicate 40 (Value.int 0)).set 0 (Value.int 99)))).set 77 (13, ((List.replicate 40 (Value.int 0)).set 0 (Value.int c)))).set 73 (1, ([Value.int 0, Value.int 0, Value.ref 74, Value.ref 75, Value.ref 76, Value.ref 77].set 0 (Value.int 1)))).set 73 (1, (([Value.int 0, Value.int 0, Value.ref 74, Value.ref 75, Value.ref 76, Value.ref 77].set 0 (Value.int 1)).set 1 (Value.int 1)))).set 8 (3, ([Value.ref 9, Value.int 0, Value.int 0, Value.int 99, Value.int 0, Value.ref 14, Value.ref 15, Value.ref 20, Value.ref 21, Value.ref 22].set 3 (Value.int c)))) _
                        refine s_ek_bk 13 (P := 57) (ls' := [(0, .ref 151), (1, .int 4), (2, .int 0)]) (st' := [.int 99]) (M' := ((((((s_M0.set 75 (13, ((List.replicate 40 (Value.int 0)).set 0 (Value.int 4)))).set 76 (13, ((List.replicate 40 (Value.int 0)).set 0 (Value.int 99)))).set 77 (13, ((List.replicate 40 (Value.int 0)).set 0 (Value.int c)))).set 73 (1, ([Value.int 0, Value.int 0, Value.ref 74, Value.ref 75, Value.ref 76, Value.ref 77].set 0 (Value.int 1)))).set 73 (1, (([Value.int 0, Value.int 0, Value.ref 74, Value.ref 75, Value.ref 76, Value.ref 77].set 0 (Value.int 1)).set 1 (Value.int 1)))).set 8 (3, ([Value.ref 9, Value.int 0, Value.int 0, Value.int 99, Value.int 0, Value.ref 14, Value.ref 15, Value.ref 20, Value.ref 21, Value.ref 22].set 3 (Value.int c))))) rfl ?_
                        refine s_ek_ret (o := some (.int 99)) (fun _ => rfl) ?_
                        show s_Ek (s_rows 3 L xs) 1298 s_e210.1 6 [(0, .ref 151), (1, .int 4), (2, .int 0), (3, .int c)] [.int 99] ((((((s_M0.set 75 (13, ((List.replicate 40 (Value.int 0)).set 0 (Value.int 4)))).set 76 (13, ((List.replicate 40 (Value.int 0)).set 0 (Value.int 99)))).set 77 (13, ((List.replicate 40 (Value.int 0)).set 0 (Value.int c)))).set 73 (1, ([Value.int 0, Value.int 0, Value.ref 74, Value.ref 75, Value.ref 76, Value.ref 77].set 0 (Value.int 1)))).set 73 (1, (([Value.int 0, Value.int 0, Value.ref 74, Value.ref 75, Value.ref 76, Value.ref 77].set 0 (Value.int 1)).set 1 (Value.int 1)))).set 8 (3, ([Value.ref 9, Value.int 0, Value.int 0, Value.int 99, Value.int 0, Value.ref 14, Value.ref 15, Value.ref 20, Value.ref 21, Value.ref 22].set 3 (Value.int c)))) _
                        refine s_ek_bk 3 (P := 11) (ls' := [(4, .int 99), (0, .ref 151), (1, .int 4), (2, .int 0), (3, .int c)]) (st' := [.int c, .int 99]) (M' := ((((((s_M0.set 75 (13, ((List.replicate 40 (Value.int 0)).set 0 (Value.int 4)))).set 76 (13, ((List.replicate 40 (Value.int 0)).set 0 (Value.int 99)))).set 77 (13, ((List.replicate 40 (Value.int 0)).set 0 (Value.int c)))).set 73 (1, ([Value.int 0, Value.int 0, Value.ref 74, Value.ref 75, Value.ref 76, Value.ref 77].set 0 (Value.int 1)))).set 73 (1, (([Value.int 0, Value.int 0, Value.ref 74, Value.ref 75, Value.ref 76, Value.ref 77].set 0 (Value.int 1)).set 1 (Value.int 1)))).set 8 (3, ([Value.ref 9, Value.int 0, Value.int 0, Value.int 99, Value.int 0, Value.ref 14, Value.ref 15, Value.ref 20, Value.ref 21, Value.ref 22].set 3 (Value.int c))))) rfl ?_
                        refine s_ek_if2 (T := 17) rfl rfl (fun h11 => ?_) (fun h11 => ?_)
                        · replace h11 : ¬ 99 = c.toInt := h11
                          replace h11 : ¬ c.toInt = 99 := by omega
                          refine s_ek_bk 3 (P := 22) (ls' := [(4, .int 99), (0, .ref 151), (1, .int 4), (2, .int 0), (3, .int c)]) (st' := []) (M' := ((((((s_M0.set 75 (13, ((List.replicate 40 (Value.int 0)).set 0 (Value.int 4)))).set 76 (13, ((List.replicate 40 (Value.int 0)).set 0 (Value.int 99)))).set 77 (13, ((List.replicate 40 (Value.int 0)).set 0 (Value.int c)))).set 73 (1, ([Value.int 0, Value.int 0, Value.ref 74, Value.ref 75, Value.ref 76, Value.ref 77].set 0 (Value.int 1)))).set 73 (1, (([Value.int 0, Value.int 0, Value.ref 74, Value.ref 75, Value.ref 76, Value.ref 77].set 0 (Value.int 1)).set 1 (Value.int 1)))).set 8 (3, ([Value.ref 9, Value.int 0, Value.int 0, Value.int 99, Value.int 0, Value.ref 14, Value.ref 15, Value.ref 20, Value.ref 21, Value.ref 22].set 3 (Value.int c))))) rfl ?_
                          refine s_ek_bk 10 (P := 131) (ls' := [(4, .int 99), (0, .ref 151), (1, .int 4), (2, .int 0), (3, .int c)]) (st' := []) (M' := (((((((s_M0.set 75 (13, ((List.replicate 40 (Value.int 0)).set 0 (Value.int 4)))).set 76 (13, ((List.replicate 40 (Value.int 0)).set 0 (Value.int 99)))).set 77 (13, ((List.replicate 40 (Value.int 0)).set 0 (Value.int c)))).set 73 (1, ([Value.int 0, Value.int 0, Value.ref 74, Value.ref 75, Value.ref 76, Value.ref 77].set 0 (Value.int 1)))).set 73 (1, (([Value.int 0, Value.int 0, Value.ref 74, Value.ref 75, Value.ref 76, Value.ref 77].set 0 (Value.int 1)).set 1 (Value.int 1)))).set 8 (3, ([Value.ref 9, Value.int 0, Value.int 0, Value.int 99, Value.int 0, Value.ref 14, Value.ref 15, Value.ref 20, Value.ref 21, Value.ref 22].set 3 (Value.int c)))).set 166 (13, ((List.replicate 40 (Value.int 0)).set 0 (Value.int 4))))) rfl ?_
                          refine s_ek_bk 6 (P := 141) (ls' := [(4, .int 99), (0, .ref 151), (1, .int 4), (2, .int 0), (3, .int c)]) (st' := []) (M' := (((((((s_M0.set 75 (13, ((List.replicate 40 (Value.int 0)).set 0 (Value.int 4)))).set 76 (13, ((List.replicate 40 (Value.int 0)).set 0 (Value.int 99)))).set 77 (13, ((List.replicate 40 (Value.int 0)).set 0 (Value.int c)))).set 73 (1, ([Value.int 0, Value.int 0, Value.ref 74, Value.ref 75, Value.ref 76, Value.ref 77].set 0 (Value.int 1)))).set 73 (1, (([Value.int 0, Value.int 0, Value.ref 74, Value.ref 75, Value.ref 76, Value.ref 77].set 0 (Value.int 1)).set 1 (Value.int 1)))).set 8 (3, ([Value.ref 9, Value.int 0, Value.int 0, Value.int 99, Value.int 0, Value.ref 14, Value.ref 15, Value.ref 20, Value.ref 21, Value.ref 22].set 3 (Value.int c)))).set 166 (13, ((List.replicate 40 (Value.int 0)).set 0 (Value.int 4))))) rfl ?_
                          refine s_ek_bk 6 (P := 152) (ls' := [(4, .int 99), (0, .ref 151), (1, .int 4), (2, .int 0), (3, .int c)]) (st' := []) (M' := ((((((((s_M0.set 75 (13, ((List.replicate 40 (Value.int 0)).set 0 (Value.int 4)))).set 76 (13, ((List.replicate 40 (Value.int 0)).set 0 (Value.int 99)))).set 77 (13, ((List.replicate 40 (Value.int 0)).set 0 (Value.int c)))).set 73 (1, ([Value.int 0, Value.int 0, Value.ref 74, Value.ref 75, Value.ref 76, Value.ref 77].set 0 (Value.int 1)))).set 73 (1, (([Value.int 0, Value.int 0, Value.ref 74, Value.ref 75, Value.ref 76, Value.ref 77].set 0 (Value.int 1)).set 1 (Value.int 1)))).set 8 (3, ([Value.ref 9, Value.int 0, Value.int 0, Value.int 99, Value.int 0, Value.ref 14, Value.ref 15, Value.ref 20, Value.ref 21, Value.ref 22].set 3 (Value.int c)))).set 166 (13, ((List.replicate 40 (Value.int 0)).set 0 (Value.int 4)))).set 168 (13, ((List.replicate 40 (Value.int 0)).set 0 (Value.int 99))))) rfl ?_
                          refine s_ek_bk 6 (P := 162) (ls' := [(4, .int 99), (0, .ref 151), (1, .int 4), (2, .int 0), (3, .int c)]) (st' := []) (M' := (((((((((s_M0.set 75 (13, ((List.replicate 40 (Value.int 0)).set 0 (Value.int 4)))).set 76 (13, ((List.replicate 40 (Value.int 0)).set 0 (Value.int 99)))).set 77 (13, ((List.replicate 40 (Value.int 0)).set 0 (Value.int c)))).set 73 (1, ([Value.int 0, Value.int 0, Value.ref 74, Value.ref 75, Value.ref 76, Value.ref 77].set 0 (Value.int 1)))).set 73 (1, (([Value.int 0, Value.int 0, Value.ref 74, Value.ref 75, Value.ref 76, Value.ref 77].set 0 (Value.int 1)).set 1 (Value.int 1)))).set 8 (3, ([Value.ref 9, Value.int 0, Value.int 0, Value.int 99, Value.int 0, Value.ref 14, Value.ref 15, Value.ref 20, Value.ref 21, Value.ref 22].set 3 (Value.int c)))).set 166 (13, ((List.replicate 40 (Value.int 0)).set 0 (Value.int 4)))).set 168 (13, ((List.replicate 40 (Value.int 0)).set 0 (Value.int 99)))).set 169 (13, ((List.replicate 40 (Value.int 0)).set 0 (Value.int c))))) rfl ?_
                          refine s_ek_bk 6 (P := 172) (ls' := [(4, .int 99), (0, .ref 151), (1, .int 4), (2, .int 0), (3, .int c)]) (st' := []) (M' := ((((((((((s_M0.set 75 (13, ((List.replicate 40 (Value.int 0)).set 0 (Value.int 4)))).set 76 (13, ((List.replicate 40 (Value.int 0)).set 0 (Value.int 99)))).set 77 (13, ((List.replicate 40 (Value.int 0)).set 0 (Value.int c)))).set 73 (1, ([Value.int 0, Value.int 0, Value.ref 74, Value.ref 75, Value.ref 76, Value.ref 77].set 0 (Value.int 1)))).set 73 (1, (([Value.int 0, Value.int 0, Value.ref 74, Value.ref 75, Value.ref 76, Value.ref 77].set 0 (Value.int 1)).set 1 (Value.int 1)))).set 8 (3, ([Value.ref 9, Value.int 0, Value.int 0, Value.int 99, Value.int 0, Value.ref 14, Value.ref 15, Value.ref 20, Value.ref 21, Value.ref 22].set 3 (Value.int c)))).set 166 (13, ((List.replicate 40 (Value.int 0)).set 0 (Value.int 4)))).set 168 (13, ((List.replicate 40 (Value.int 0)).set 0 (Value.int 99)))).set 169 (13, ((List.replicate 40 (Value.int 0)).set 0 (Value.int c)))).set 151 (11, ([Value.int 0, Value.ref 152, Value.int 0, Value.int 0, Value.int 0, Value.int 0, Value.int 0, Value.ref 153, Value.ref 154, Value.ref 155, Value.ref 156, Value.ref 157, Value.ref 158, Value.ref 159, Value.int 0, Value.ref 160, Value.ref 161, Value.ref 162, Value.int 0, Value.int 99, Value.ref 163, Value.ref 164, Value.ref 165, Value.int 0, Value.int 0, Value.ref 166, Value.ref 167, Value.ref 168, Value.ref 169, Value.ref 170, Value.int 0, Value.int 0, Value.ref 171, Value.ref 172, Value.ref 173, Value.int 0, Value.int 0, Value.ref 174, Value.ref 175, Value.ref 176, Value.ref 177, Value.ref 178, Value.int 0, Value.ref 179, Value.int 0, Value.ref 180, Value.ref 181, Value.ref 182, Value.ref 183, Value.ref 184].set 23 (Value.int 1))))) rfl ?_
                          refine s_ek_bk 4 (P := 176) (ls' := [(4, .int 99), (0, .ref 151), (1, .int 4), (2, .int 0), (3, .int c)]) (st' := [.int c, .int 0, .int 4, .ref 151]) (M' := ((((((((((s_M0.set 75 (13, ((List.replicate 40 (Value.int 0)).set 0 (Value.int 4)))).set 76 (13, ((List.replicate 40 (Value.int 0)).set 0 (Value.int 99)))).set 77 (13, ((List.replicate 40 (Value.int 0)).set 0 (Value.int c)))).set 73 (1, ([Value.int 0, Value.int 0, Value.ref 74, Value.ref 75, Value.ref 76, Value.ref 77].set 0 (Value.int 1)))).set 73 (1, (([Value.int 0, Value.int 0, Value.ref 74, Value.ref 75, Value.ref 76, Value.ref 77].set 0 (Value.int 1)).set 1 (Value.int 1)))).set 8 (3, ([Value.ref 9, Value.int 0, Value.int 0, Value.int 99, Value.int 0, Value.ref 14, Value.ref 15, Value.ref 20, Value.ref 21, Value.ref 22].set 3 (Value.int c)))).set 166 (13, ((List.replicate 40 (Value.int 0)).set 0 (Value.int 4)))).set 168 (13, ((List.replicate 40 (Value.int 0)).set 0 (Value.int 99)))).set 169 (13, ((List.replicate 40 (Value.int 0)).set 0 (Value.int c)))).set 151 (11, ([Value.int 0, Value.ref 152, Value.int 0, Value.int 0, Value.int 0, Value.int 0, Value.int 0, Value.ref 153, Value.ref 154, Value.ref 155, Value.ref 156, Value.ref 157, Value.ref 158, Value.ref 159, Value.int 0, Value.ref 160, Value.ref 161, Value.ref 162, Value.int 0, Value.int 99, Value.ref 163, Value.ref 164, Value.ref 165, Value.int 0, Value.int 0, Value.ref 166, Value.ref 167, Value.ref 168, Value.ref 169, Value.ref 170, Value.int 0, Value.int 0, Value.ref 171, Value.ref 172, Value.ref 173, Value.int 0, Value.int 0, Value.ref 174, Value.ref 175, Value.ref 176, Value.ref 177, Value.ref 178, Value.int 0, Value.ref 179, Value.int 0, Value.ref 180, Value.ref 181, Value.ref 182, Value.ref 183, Value.ref 184].set 23 (Value.int 1))))) rfl ?_
                          refine s_ek_call (ν := s_e209.1) (P := 179) (as := [.ref 151, .int 4, .int 0, .int c]) (r := []) (fun _ => rfl) rfl ?_
                          show s_Ek (s_rows 3 L xs) 1297 s_e209.1 0 [(0, .ref 151), (1, .int 4), (2, .int 0), (3, .int c)] [] ((((((((((s_M0.set 75 (13, ((List.replicate 40 (Value.int 0)).set 0 (Value.int 4)))).set 76 (13, ((List.replicate 40 (Value.int 0)).set 0 (Value.int 99)))).set 77 (13, ((List.replicate 40 (Value.int 0)).set 0 (Value.int c)))).set 73 (1, ([Value.int 0, Value.int 0, Value.ref 74, Value.ref 75, Value.ref 76, Value.ref 77].set 0 (Value.int 1)))).set 73 (1, (([Value.int 0, Value.int 0, Value.ref 74, Value.ref 75, Value.ref 76, Value.ref 77].set 0 (Value.int 1)).set 1 (Value.int 1)))).set 8 (3, ([Value.ref 9, Value.int 0, Value.int 0, Value.int 99, Value.int 0, Value.ref 14, Value.ref 15, Value.ref 20, Value.ref 21, Value.ref 22].set 3 (Value.int c)))).set 166 (13, ((List.replicate 40 (Value.int 0)).set 0 (Value.int 4)))).set 168 (13, ((List.replicate 40 (Value.int 0)).set 0 (Value.int 99)))).set 169 (13, ((List.replicate 40 (Value.int 0)).set 0 (Value.int c)))).set 151 (11, ([Value.int 0, Value.ref 152, Value.int 0, Value.int 0, Value.int 0, Value.int 0, Value.int 0, Value.ref 153, Value.ref 154, Value.ref 155, Value.ref 156, Value.ref 157, Value.ref 158, Value.ref 159, Value.int 0, Value.ref 160, Value.ref 161, Value.ref 162, Value.int 0, Value.int 99, Value.ref 163, Value.ref 164, Value.ref 165, Value.int 0, Value.int 0, Value.ref 166, Value.ref 167, Value.ref 168, Value.ref 169, Value.ref 170, Value.int 0, Value.int 0, Value.ref 171, Value.ref 172, Value.ref 173, Value.int 0, Value.int 0, Value.ref 174, Value.ref 175, Value.ref 176, Value.ref 177, Value.ref 178, Value.int 0, Value.ref 179, Value.int 0, Value.ref 180, Value.ref 181, Value.ref 182, Value.ref 183, Value.ref 184].set 23 (Value.int 1)))) _
                          refine s_ek_bk 14 (P := 62) (ls' := [(0, .ref 151), (1, .int 4), (2, .int 0), (3, .int c)]) (st' := []) (M' := (((((((((((s_M0.set 75 (13, ((List.replicate 40 (Value.int 0)).set 0 (Value.int 4)))).set 76 (13, ((List.replicate 40 (Value.int 0)).set 0 (Value.int 99)))).set 77 (13, ((List.replicate 40 (Value.int 0)).set 0 (Value.int c)))).set 73 (1, ([Value.int 0, Value.int 0, Value.ref 74, Value.ref 75, Value.ref 76, Value.ref 77].set 0 (Value.int 1)))).set 73 (1, (([Value.int 0, Value.int 0, Value.ref 74, Value.ref 75, Value.ref 76, Value.ref 77].set 0 (Value.int 1)).set 1 (Value.int 1)))).set 8 (3, ([Value.ref 9, Value.int 0, Value.int 0, Value.int 99, Value.int 0, Value.ref 14, Value.ref 15, Value.ref 20, Value.ref 21, Value.ref 22].set 3 (Value.int c)))).set 166 (13, ((List.replicate 40 (Value.int 0)).set 0 (Value.int 4)))).set 168 (13, ((List.replicate 40 (Value.int 0)).set 0 (Value.int 99)))).set 169 (13, ((List.replicate 40 (Value.int 0)).set 0 (Value.int c)))).set 151 (11, ([Value.int 0, Value.ref 152, Value.int 0, Value.int 0, Value.int 0, Value.int 0, Value.int 0, Value.ref 153, Value.ref 154, Value.ref 155, Value.ref 156, Value.ref 157, Value.ref 158, Value.ref 159, Value.int 0, Value.ref 160, Value.ref 161, Value.ref 162, Value.int 0, Value.int 99, Value.ref 163, Value.ref 164, Value.ref 165, Value.int 0, Value.int 0, Value.ref 166, Value.ref 167, Value.ref 168, Value.ref 169, Value.ref 170, Value.int 0, Value.int 0, Value.ref 171, Value.ref 172, Value.ref 173, Value.int 0, Value.int 0, Value.ref 174, Value.ref 175, Value.ref 176, Value.ref 177, Value.ref 178, Value.int 0, Value.ref 179, Value.int 0, Value.ref 180, Value.ref 181, Value.ref 182, Value.ref 183, Value.ref 184].set 23 (Value.int 1)))).set 151 (11, (([Value.int 0, Value.ref 152, Value.int 0, Value.int 0, Value.int 0, Value.int 0, Value.int 0, Value.ref 153, Value.ref 154, Value.ref 155, Value.ref 156, Value.ref 157, Value.ref 158, Value.ref 159, Value.int 0, Value.ref 160, Value.ref 161, Value.ref 162, Value.int 0, Value.int 99, Value.ref 163, Value.ref 164, Value.ref 165, Value.int 0, Value.int 0, Value.ref 166, Value.ref 167, Value.ref 168, Value.ref 169, Value.ref 170, Value.int 0, Value.int 0, Value.ref 171, Value.ref 172, Value.ref 173, Value.int 0, Value.int 0, Value.ref 174, Value.ref 175, Value.ref 176, Value.ref 177, Value.ref 178, Value.int 0, Value.ref 179, Value.int 0, Value.ref 180, Value.ref 181, Value.ref 182, Value.ref 183, Value.ref 184].set 23 (Value.int 1)).set 19 (Value.int c))))) rfl ?_
                          refine s_ek_ret (o := none) (fun _ => rfl) ?_
                          show s_Ek (s_rows 3 L xs) 1298 s_e210.1 179 [(4, .int 99), (0, .ref 151), (1, .int 4), (2, .int 0), (3, .int c)] [] (((((((((((s_M0.set 75 (13, ((List.replicate 40 (Value.int 0)).set 0 (Value.int 4)))).set 76 (13, ((List.replicate 40 (Value.int 0)).set 0 (Value.int 99)))).set 77 (13, ((List.replicate 40 (Value.int 0)).set 0 (Value.int c)))).set 73 (1, ([Value.int 0, Value.int 0, Value.ref 74, Value.ref 75, Value.ref 76, Value.ref 77].set 0 (Value.int 1)))).set 73 (1, (([Value.int 0, Value.int 0, Value.ref 74, Value.ref 75, Value.ref 76, Value.ref 77].set 0 (Value.int 1)).set 1 (Value.int 1)))).set 8 (3, ([Value.ref 9, Value.int 0, Value.int 0, Value.int 99, Value.int 0, Value.ref 14, Value.ref 15, Value.ref 20, Value.ref 21, Value.ref 22].set 3 (Value.int c)))).set 166 (13, ((List.replicate 40 (Value.int 0)).set 0 (Value.int 4)))).set 168 (13, ((List.replicate 40 (Value.int 0)).set 0 (Value.int 99)))).set 169 (13, ((List.replicate 40 (Value.int 0)).set 0 (Value.int c)))).set 151 (11, ([Value.int 0, Value.ref 152, Value.int 0, Value.int 0, Value.int 0, Value.int 0, Value.int 0, Value.ref 153, Value.ref 154, Value.ref 155, Value.ref 156, Value.ref 157, Value.ref 158, Value.ref 159, Value.int 0, Value.ref 160, Value.ref 161, Value.ref 162, Value.int 0, Value.int 99, Value.ref 163, Value.ref 164, Value.ref 165, Value.int 0, Value.int 0, Value.ref 166, Value.ref 167, Value.ref 168, Value.ref 169, Value.ref 170, Value.int 0, Value.int 0, Value.ref 171, Value.ref 172, Value.ref 173, Value.int 0, Value.int 0, Value.ref 174, Value.ref 175, Value.ref 176, Value.ref 177, Value.ref 178, Value.int 0, Value.ref 179, Value.int 0, Value.ref 180, Value.ref 181, Value.ref 182, Value.ref 183, Value.ref 184].set 23 (Value.int 1)))).set 151 (11, (([Value.int 0, Value.ref 152, Value.int 0, Value.int 0, Value.int 0, Value.int 0, Value.int 0, Value.ref 153, Value.ref 154, Value.ref 155, Value.ref 156, Value.ref 157, Value.ref 158, Value.ref 159, Value.int 0, Value.ref 160, Value.ref 161, Value.ref 162, Value.int 0, Value.int 99, Value.ref 163, Value.ref 164, Value.ref 165, Value.int 0, Value.int 0, Value.ref 166, Value.ref 167, Value.ref 168, Value.ref 169, Value.ref 170, Value.int 0, Value.int 0, Value.ref 171, Value.ref 172, Value.ref 173, Value.int 0, Value.int 0, Value.ref 174, Value.ref 175, Value.ref 176, Value.ref 177, Value.ref 178, Value.int 0, Value.ref 179, Value.int 0, Value.ref 180, Value.ref 181, Value.ref 182, Value.ref 183, Value.ref 184].set 23 (Value.int 1)).set 19 (Value.int c)))) _
                          refine s_ek_bk 1 (P := 181) (ls' := [(4, .int 99), (0, .ref 151), (1, .int 4), (2, .int 0), (3, .int c)]) (st' := [.int 99]) (M' := (((((((((((s_M0.set 75 (13, ((List.replicate 40 (Value.int 0)).set 0 (Value.int 4)))).set 76 (13, ((List.replicate 40 (Value.int 0)).set 0 (Value.int 99)))).set 77 (13, ((List.replicate 40 (Value.int 0)).set 0 (Value.int c)))).set 73 (1, ([Value.int 0, Value.int 0, Value.ref 74, Value.ref 75, Value.ref 76, Value.ref 77].set 0 (Value.int 1)))).set 73 (1, (([Value.int 0, Value.int 0, Value.ref 74, Value.ref 75, Value.ref 76, Value.ref 77].set 0 (Value.int 1)).set 1 (Value.int 1)))).set 8 (3, ([Value.ref 9, Value.int 0, Value.int 0, Value.int 99, Value.int 0, Value.ref 14, Value.ref 15, Value.ref 20, Value.ref 21, Value.ref 22].set 3 (Value.int c)))).set 166 (13, ((List.replicate 40 (Value.int 0)).set 0 (Value.int 4)))).set 168 (13, ((List.replicate 40 (Value.int 0)).set 0 (Value.int 99)))).set 169 (13, ((List.replicate 40 (Value.int 0)).set 0 (Value.int c)))).set 151 (11, ([Value.int 0, Value.ref 152, Value.int 0, Value.int 0, Value.int 0, Value.int 0, Value.int 0, Value.ref 153, Value.ref 154, Value.ref 155, Value.ref 156, Value.ref 157, Value.ref 158, Value.ref 159, Value.int 0, Value.ref 160, Value.ref 161, Value.ref 162, Value.int 0, Value.int 99, Value.ref 163, Value.ref 164, Value.ref 165, Value.int 0, Value.int 0, Value.ref 166, Value.ref 167, Value.ref 168, Value.ref 169, Value.ref 170, Value.int 0, Value.int 0, Value.ref 171, Value.ref 172, Value.ref 173, Value.int 0, Value.int 0, Value.ref 174, Value.ref 175, Value.ref 176, Value.ref 177, Value.ref 178, Value.int 0, Value.ref 179, Value.int 0, Value.ref 180, Value.ref 181, Value.ref 182, Value.ref 183, Value.ref 184].set 23 (Value.int 1)))).set 151 (11, (([Value.int 0, Value.ref 152, Value.int 0, Value.int 0, Value.int 0, Value.int 0, Value.int 0, Value.ref 153, Value.ref 154, Value.ref 155, Value.ref 156, Value.ref 157, Value.ref 158, Value.ref 159, Value.int 0, Value.ref 160, Value.ref 161, Value.ref 162, Value.int 0, Value.int 99, Value.ref 163, Value.ref 164, Value.ref 165, Value.int 0, Value.int 0, Value.ref 166, Value.ref 167, Value.ref 168, Value.ref 169, Value.ref 170, Value.int 0, Value.int 0, Value.ref 171, Value.ref 172, Value.ref 173, Value.int 0, Value.int 0, Value.ref 174, Value.ref 175, Value.ref 176, Value.ref 177, Value.ref 178, Value.int 0, Value.ref 179, Value.int 0, Value.ref 180, Value.ref 181, Value.ref 182, Value.ref 183, Value.ref 184].set 23 (Value.int 1)).set 19 (Value.int c))))) rfl ?_
                          refine s_ek_ret (o := some (.int 99)) (fun _ => rfl) ?_
                          show s_Ek (s_rows 3 L xs) 1299 s_e213.1 175 [(0, .ref 151), (1, .int 0), (2, .int 4), (3, .int c)] [.int 99] (((((((((((s_M0.set 75 (13, ((List.replicate 40 (Value.int 0)).set 0 (Value.int 4)))).set 76 (13, ((List.replicate 40 (Value.int 0)).set 0 (Value.int 99)))).set 77 (13, ((List.replicate 40 (Value.int 0)).set 0 (Value.int c)))).set 73 (1, ([Value.int 0, Value.int 0, Value.ref 74, Value.ref 75, Value.ref 76, Value.ref 77].set 0 (Value.int 1)))).set 73 (1, (([Value.int 0, Value.int 0, Value.ref 74, Value.ref 75, Value.ref 76, Value.ref 77].set 0 (Value.int 1)).set 1 (Value.int 1)))).set 8 (3, ([Value.ref 9, Value.int 0, Value.int 0, Value.int 99, Value.int 0, Value.ref 14, Value.ref 15, Value.ref 20, Value.ref 21, Value.ref 22].set 3 (Value.int c)))).set 166 (13, ((List.replicate 40 (Value.int 0)).set 0 (Value.int 4)))).set 168 (13, ((List.replicate 40 (Value.int 0)).set 0 (Value.int 99)))).set 169 (13, ((List.replicate 40 (Value.int 0)).set 0 (Value.int c)))).set 151 (11, ([Value.int 0, Value.ref 152, Value.int 0, Value.int 0, Value.int 0, Value.int 0, Value.int 0, Value.ref 153, Value.ref 154, Value.ref 155, Value.ref 156, Value.ref 157, Value.ref 158, Value.ref 159, Value.int 0, Value.ref 160, Value.ref 161, Value.ref 162, Value.int 0, Value.int 99, Value.ref 163, Value.ref 164, Value.ref 165, Value.int 0, Value.int 0, Value.ref 166, Value.ref 167, Value.ref 168, Value.ref 169, Value.ref 170, Value.int 0, Value.int 0, Value.ref 171, Value.ref 172, Value.ref 173, Value.int 0, Value.int 0, Value.ref 174, Value.ref 175, Value.ref 176, Value.ref 177, Value.ref 178, Value.int 0, Value.ref 179, Value.int 0, Value.ref 180, Value.ref 181, Value.ref 182, Value.ref 183, Value.ref 184].set 23 (Value.int 1)))).set 151 (11, (([Value.int 0, Value.ref 152, Value.int 0, Value.int 0, Value.int 0, Value.int 0, Value.int 0, Value.ref 153, Value.ref 154, Value.ref 155, Value.ref 156, Value.ref 157, Value.ref 158, Value.ref 159, Value.int 0, Value.ref 160, Value.ref 161, Value.ref 162, Value.int 0, Value.int 99, Value.ref 163, Value.ref 164, Value.ref 165, Value.int 0, Value.int 0, Value.ref 166, Value.ref 167, Value.ref 168, Value.ref 169, Value.ref 170, Value.int 0, Value.int 0, Value.ref 171, Value.ref 172, Value.ref 173, Value.int 0, Value.int 0, Value.ref 174, Value.ref 175, Value.ref 176, Value.ref 177, Value.ref 178, Value.int 0, Value.ref 179, Value.int 0, Value.ref 180, Value.ref 181, Value.ref 182, Value.ref 183, Value.ref 184].set 23 (Value.int 1)).set 19 (Value.int c)))) _
                          refine s_ek_bk 1 (P := 180) (ls' := [(0, .ref 151), (1, .int 0), (2, .int 4), (3, .int c)]) (st' := [.int 99]) (M' := (((((((((((s_M0.set 75 (13, ((List.replicate 40 (Value.int 0)).set 0 (Value.int 4)))).set 76 (13, ((List.replicate 40 (Value.int 0)).set 0 (Value.int 99)))).set 77 (13, ((List.replicate 40 (Value.int 0)).set 0 (Value.int c)))).set 73 (1, ([Value.int 0, Value.int 0, Value.ref 74, Value.ref 75, Value.ref 76, Value.ref 77].set 0 (Value.int 1)))).set 73 (1, (([Value.int 0, Value.int 0, Value.ref 74, Value.ref 75, Value.ref 76, Value.ref 77].set 0 (Value.int 1)).set 1 (Value.int 1)))).set 8 (3, ([Value.ref 9, Value.int 0, Value.int 0, Value.int 99, Value.int 0, Value.ref 14, Value.ref 15, Value.ref 20, Value.ref 21, Value.ref 22].set 3 (Value.int c)))).set 166 (13, ((List.replicate 40 (Value.int 0)).set 0 (Value.int 4)))).set 168 (13, ((List.replicate 40 (Value.int 0)).set 0 (Value.int 99)))).set 169 (13, ((List.replicate 40 (Value.int 0)).set 0 (Value.int c)))).set 151 (11, ([Value.int 0, Value.ref 152, Value.int 0, Value.int 0, Value.int 0, Value.int 0, Value.int 0, Value.ref 153, Value.ref 154, Value.ref 155, Value.ref 156, Value.ref 157, Value.ref 158, Value.ref 159, Value.int 0, Value.ref 160, Value.ref 161, Value.ref 162, Value.int 0, Value.int 99, Value.ref 163, Value.ref 164, Value.ref 165, Value.int 0, Value.int 0, Value.ref 166, Value.ref 167, Value.ref 168, Value.ref 169, Value.ref 170, Value.int 0, Value.int 0, Value.ref 171, Value.ref 172, Value.ref 173, Value.int 0, Value.int 0, Value.ref 174, Value.ref 175, Value.ref 176, Value.ref 177, Value.ref 178, Value.int 0, Value.ref 179, Value.int 0, Value.ref 180, Value.ref 181, Value.ref 182, Value.ref 183, Value.ref 184].set 23 (Value.int 1)))).set 151 (11, (([Value.int 0, Value.ref 152, Value.int 0, Value.int 0, Value.int 0, Value.int 0, Value.int 0, Value.ref 153, Value.ref 154, Value.ref 155, Value.ref 156, Value.ref 157, Value.ref 158, Value.ref 159, Value.int 0, Value.ref 160, Value.ref 161, Value.ref 162, Value.int 0, Value.int 99, Value.ref 163, Value.ref 164, Value.ref 165, Value.int 0, Value.int 0, Value.ref 166, Value.ref 167, Value.ref 168, Value.ref 169, Value.ref 170, Value.int 0, Value.int 0, Value.ref 171, Value.ref 172, Value.ref 173, Value.int 0, Value.int 0, Value.ref 174, Value.ref 175, Value.ref 176, Value.ref 177, Value.ref 178, Value.int 0, Value.ref 179, Value.int 0, Value.ref 180, Value.ref 181, Value.ref 182, Value.ref 183, Value.ref 184].set 23 (Value.int 1)).set 19 (Value.int c))))) rfl ?_
                          refine s_ek_ret (o := some (.int 99)) (fun _ => rfl) ?_
                          exact rfl
                        · replace h11 : ¬ (¬ 99 = c.toInt) := h11
                          replace h11 : c.toInt = 99 := by omega
                          omega
