theorem s_pin {a : Int32} {k : Int} {v : Int32} (h : a.toInt = k) (hv : v.toInt = k) : a = v := Int32.toInt_inj.mp (h.trans hv.symm)
set_option maxHeartbeats 8000000 in
set_option maxRecDepth 100000 in
theorem s_op_speaks (L : Nat) (xs : Nat → Int32) (a : Int32) (b : Int32) : s_Ek (s_rows 3 L xs) 1299 s_e143.1 0 (lv_args 0 [.ref 0, .int a, .int b]) [] s_M0 (fun v M1 => ∃ r : Int32, v = some (.int r) ∧ s_Ek (s_rows 3 L xs) 1299 s_e234.1 0 (lv_args 0 [.ref 151, .int a, .int b]) [] M1 (fun w _ => w = some (.int r))) := by
  show s_Ek (s_rows 3 L xs) 1299 s_e143.1 0 [(0, .ref 0), (1, .int a), (2, .int b)] [] s_M0 _
  refine s_ek_bk 1 (P := 1) (ls' := [(0, .ref 0), (1, .int a), (2, .int b)]) (st' := [.int b]) (M' := s_M0) rfl ?_
  refine s_ek_call (ν := s_e2.1) (P := 4) (as := [.int b]) (r := []) (fun _ => rfl) rfl ?_
  show s_Ek (s_rows 3 L xs) 1298 s_e2.1 0 [(0, .int b)] [] s_M0 _
  refine s_ek_bk 1 (P := 1) (ls' := [(0, .int b)]) (st' := [.int b]) (M' := s_M0) rfl ?_
  refine s_ek_if1 (T := 30) rfl rfl (fun h1 => ?_) (fun h1 => ?_)
  · replace h1 : b.toInt < 0 := h1
    refine s_ek_bk 1 (P := 31) (ls' := [(0, .int b)]) (st' := [.int (-1)]) (M' := s_M0) rfl ?_
    refine s_ek_ret (o := some (.int (-1))) (fun _ => rfl) ?_
    show s_Ek (s_rows 3 L xs) 1299 s_e143.1 4 [(0, .ref 0), (1, .int a), (2, .int b)] [.int (-1)] s_M0 _
    refine s_ek_bk 4 (P := 10) (ls' := [(3, .int (-1)), (0, .ref 0), (1, .int a), (2, .int b)]) (st' := [.int a, .ref 8]) (M' := s_M0) rfl ?_
    refine s_ek_call (ν := s_e40.1) (P := 13) (as := [.ref 8, .int a]) (r := []) (fun _ => rfl) rfl ?_
    show s_Ek (s_rows 3 L xs) 1298 s_e40.1 0 [(0, .ref 8), (1, .int a)] [] s_M0 _
    refine s_ek_bk 1 (P := 1) (ls' := [(0, .ref 8), (1, .int a)]) (st' := [.int a]) (M' := s_M0) rfl ?_
    refine s_ek_if1 (T := 16) rfl rfl (fun h2 => ?_) (fun h2 => ?_)
    · replace h2 : a.toInt < 0 := h2
      refine s_ek_bk 1 (P := 17) (ls' := [(0, .ref 8), (1, .int a)]) (st' := [.int 0]) (M' := s_M0) rfl ?_
      refine s_ek_ret (o := some (.int 0)) (fun _ => rfl) ?_
      show s_Ek (s_rows 3 L xs) 1299 s_e143.1 13 [(3, .int (-1)), (0, .ref 0), (1, .int a), (2, .int b)] [.int 0] s_M0 _
      refine s_ek_bk 2 (P := 21) (ls' := [(3, .int (-1)), (0, .ref 0), (1, .int a), (2, .int b)]) (st' := [.int (-1)]) (M' := s_M0) rfl ?_
      refine s_ek_ret (o := some (.int (-1))) (fun _ => rfl) ?_
      refine ⟨(-1), rfl, ?_⟩
      show s_Ek (s_rows 3 L xs) 1299 s_e234.1 0 [(0, .ref 151), (1, .int a), (2, .int b)] [] s_M0 _
      refine s_ek_bk 2 (P := 2) (ls' := [(0, .ref 151), (1, .int a), (2, .int b)]) (st' := [.int a, .ref 151]) (M' := s_M0) rfl ?_
      refine s_ek_call (ν := s_e201.1) (P := 5) (as := [.ref 151, .int a]) (r := []) (fun _ => rfl) rfl ?_
      show s_Ek (s_rows 3 L xs) 1298 s_e201.1 0 [(0, .ref 151), (1, .int a)] [] s_M0 _
      refine s_ek_bk 6 (P := 8) (ls' := [(0, .ref 151), (1, .int a)]) (st' := [.int (-1), .int 0, .int a]) (M' := s_M0) rfl ?_
      refine s_ek_call (ν := s_e181.1) (P := 11) (as := [.int a, .int 0, .int (-1)]) (r := []) (fun _ => rfl) rfl ?_
      show s_Ek (s_rows 3 L xs) 1297 s_e181.1 0 [(0, .int a), (1, .int 0), (2, .int (-1))] [] s_M0 _
      refine s_ek_bk 2 (P := 2) (ls' := [(0, .int a), (1, .int 0), (2, .int (-1))]) (st' := [.int 0, .int a]) (M' := s_M0) rfl ?_
      refine s_ek_if2 (T := 14) rfl rfl (fun h3 => ?_) (fun h3 => ?_)
      · replace h3 : a.toInt < 0 := h3
        refine s_ek_bk 1 (P := 15) (ls' := [(0, .int a), (1, .int 0), (2, .int (-1))]) (st' := [.int 0]) (M' := s_M0) rfl ?_
        refine s_ek_ret (o := some (.int 0)) (fun _ => rfl) ?_
        show s_Ek (s_rows 3 L xs) 1298 s_e201.1 11 [(0, .ref 151), (1, .int a)] [.int 0] s_M0 _
        refine s_ek_ret (o := some (.int 0)) (fun _ => rfl) ?_
        show s_Ek (s_rows 3 L xs) 1299 s_e234.1 5 [(0, .ref 151), (1, .int a), (2, .int b)] [.int 0] s_M0 _
        refine s_ek_bk 2 (P := 16) (ls' := [(0, .ref 151), (1, .int a), (2, .int b)]) (st' := [.int (-1)]) (M' := s_M0) rfl ?_
        refine s_ek_ret (o := some (.int (-1))) (fun _ => rfl) ?_
        exact rfl
      · replace h3 : ¬ (a.toInt < 0) := h3
        replace h3 : 0 ≤ a.toInt := by omega
        omega
    · replace h2 : ¬ (a.toInt < 0) := h2
      replace h2 : 0 ≤ a.toInt := by omega
      refine s_ek_bk 3 (P := 9) (ls' := [(0, .ref 8), (1, .int a)]) (st' := [.int 0, .int a]) (M' := s_M0) rfl ?_
      refine s_ek_if2 (T := 16) rfl rfl (fun h3 => ?_) (fun h3 => ?_)
      · replace h3 : 0 ≤ a.toInt := h3
        refine s_ek_bk 1 (P := 17) (ls' := [(0, .ref 8), (1, .int a)]) (st' := [.int 0]) (M' := s_M0) rfl ?_
        refine s_ek_ret (o := some (.int 0)) (fun _ => rfl) ?_
        show s_Ek (s_rows 3 L xs) 1299 s_e143.1 13 [(3, .int (-1)), (0, .ref 0), (1, .int a), (2, .int b)] [.int 0] s_M0 _
        refine s_ek_bk 2 (P := 21) (ls' := [(3, .int (-1)), (0, .ref 0), (1, .int a), (2, .int b)]) (st' := [.int (-1)]) (M' := s_M0) rfl ?_
        refine s_ek_ret (o := some (.int (-1))) (fun _ => rfl) ?_
        refine ⟨(-1), rfl, ?_⟩
        show s_Ek (s_rows 3 L xs) 1299 s_e234.1 0 [(0, .ref 151), (1, .int a), (2, .int b)] [] s_M0 _
        refine s_ek_bk 2 (P := 2) (ls' := [(0, .ref 151), (1, .int a), (2, .int b)]) (st' := [.int a, .ref 151]) (M' := s_M0) rfl ?_
        refine s_ek_call (ν := s_e201.1) (P := 5) (as := [.ref 151, .int a]) (r := []) (fun _ => rfl) rfl ?_
        show s_Ek (s_rows 3 L xs) 1298 s_e201.1 0 [(0, .ref 151), (1, .int a)] [] s_M0 _
        refine s_ek_bk 6 (P := 8) (ls' := [(0, .ref 151), (1, .int a)]) (st' := [.int (-1), .int 0, .int a]) (M' := s_M0) rfl ?_
        refine s_ek_call (ν := s_e181.1) (P := 11) (as := [.int a, .int 0, .int (-1)]) (r := []) (fun _ => rfl) rfl ?_
        show s_Ek (s_rows 3 L xs) 1297 s_e181.1 0 [(0, .int a), (1, .int 0), (2, .int (-1))] [] s_M0 _
        refine s_ek_bk 2 (P := 2) (ls' := [(0, .int a), (1, .int 0), (2, .int (-1))]) (st' := [.int 0, .int a]) (M' := s_M0) rfl ?_
        refine s_ek_if2 (T := 14) rfl rfl (fun h4 => ?_) (fun h4 => ?_)
        · replace h4 : a.toInt < 0 := h4
          omega
        · replace h4 : ¬ (a.toInt < 0) := h4
          replace h4 : 0 ≤ a.toInt := by omega
          refine s_ek_bk 2 (P := 7) (ls' := [(0, .int a), (1, .int 0), (2, .int (-1))]) (st' := [.int (-1), .int a]) (M' := s_M0) rfl ?_
          refine s_ek_if2 (T := 14) rfl rfl (fun h5 => ?_) (fun h5 => ?_)
          · replace h5 : (-1) < a.toInt := h5
            refine s_ek_bk 1 (P := 15) (ls' := [(0, .int a), (1, .int 0), (2, .int (-1))]) (st' := [.int 0]) (M' := s_M0) rfl ?_
            refine s_ek_ret (o := some (.int 0)) (fun _ => rfl) ?_
            show s_Ek (s_rows 3 L xs) 1298 s_e201.1 11 [(0, .ref 151), (1, .int a)] [.int 0] s_M0 _
            refine s_ek_ret (o := some (.int 0)) (fun _ => rfl) ?_
            show s_Ek (s_rows 3 L xs) 1299 s_e234.1 5 [(0, .ref 151), (1, .int a), (2, .int b)] [.int 0] s_M0 _
            refine s_ek_bk 2 (P := 16) (ls' := [(0, .ref 151), (1, .int a), (2, .int b)]) (st' := [.int (-1)]) (M' := s_M0) rfl ?_
            refine s_ek_ret (o := some (.int (-1))) (fun _ => rfl) ?_
            exact rfl
          · replace h5 : ¬ ((-1) < a.toInt) := h5
            replace h5 : a.toInt ≤ (-1) := by omega
            omega
      · replace h3 : ¬ (0 ≤ a.toInt) := h3
        replace h3 : a.toInt < 0 := by omega
        omega
  · replace h1 : ¬ (b.toInt < 0) := h1
    replace h1 : 0 ≤ b.toInt := by omega
    refine s_ek_bk 2 (P := 8) (ls' := [(0, .int b)]) (st' := [.int 444, .int b]) (M' := s_M0) rfl ?_
    refine s_ek_if2 (T := 30) rfl rfl (fun h2 => ?_) (fun h2 => ?_)
    · replace h2 : 444 < b.toInt := h2
      refine s_ek_bk 1 (P := 31) (ls' := [(0, .int b)]) (st' := [.int (-1)]) (M' := s_M0) rfl ?_
      refine s_ek_ret (o := some (.int (-1))) (fun _ => rfl) ?_
      show s_Ek (s_rows 3 L xs) 1299 s_e143.1 4 [(0, .ref 0), (1, .int a), (2, .int b)] [.int (-1)] s_M0 _
      refine s_ek_bk 4 (P := 10) (ls' := [(3, .int (-1)), (0, .ref 0), (1, .int a), (2, .int b)]) (st' := [.int a, .ref 8]) (M' := s_M0) rfl ?_
      refine s_ek_call (ν := s_e40.1) (P := 13) (as := [.ref 8, .int a]) (r := []) (fun _ => rfl) rfl ?_
      show s_Ek (s_rows 3 L xs) 1298 s_e40.1 0 [(0, .ref 8), (1, .int a)] [] s_M0 _
      refine s_ek_bk 1 (P := 1) (ls' := [(0, .ref 8), (1, .int a)]) (st' := [.int a]) (M' := s_M0) rfl ?_
      refine s_ek_if1 (T := 16) rfl rfl (fun h3 => ?_) (fun h3 => ?_)
      · replace h3 : a.toInt < 0 := h3
        refine s_ek_bk 1 (P := 17) (ls' := [(0, .ref 8), (1, .int a)]) (st' := [.int 0]) (M' := s_M0) rfl ?_
        refine s_ek_ret (o := some (.int 0)) (fun _ => rfl) ?_
        show s_Ek (s_rows 3 L xs) 1299 s_e143.1 13 [(3, .int (-1)), (0, .ref 0), (1, .int a), (2, .int b)] [.int 0] s_M0 _
        refine s_ek_bk 2 (P := 21) (ls' := [(3, .int (-1)), (0, .ref 0), (1, .int a), (2, .int b)]) (st' := [.int (-1)]) (M' := s_M0) rfl ?_
        refine s_ek_ret (o := some (.int (-1))) (fun _ => rfl) ?_
        refine ⟨(-1), rfl, ?_⟩
        show s_Ek (s_rows 3 L xs) 1299 s_e234.1 0 [(0, .ref 151), (1, .int a), (2, .int b)] [] s_M0 _
        refine s_ek_bk 2 (P := 2) (ls' := [(0, .ref 151), (1, .int a), (2, .int b)]) (st' := [.int a, .ref 151]) (M' := s_M0) rfl ?_
        refine s_ek_call (ν := s_e201.1) (P := 5) (as := [.ref 151, .int a]) (r := []) (fun _ => rfl) rfl ?_
        show s_Ek (s_rows 3 L xs) 1298 s_e201.1 0 [(0, .ref 151), (1, .int a)] [] s_M0 _
        refine s_ek_bk 6 (P := 8) (ls' := [(0, .ref 151), (1, .int a)]) (st' := [.int (-1), .int 0, .int a]) (M' := s_M0) rfl ?_
        refine s_ek_call (ν := s_e181.1) (P := 11) (as := [.int a, .int 0, .int (-1)]) (r := []) (fun _ => rfl) rfl ?_
        show s_Ek (s_rows 3 L xs) 1297 s_e181.1 0 [(0, .int a), (1, .int 0), (2, .int (-1))] [] s_M0 _
        refine s_ek_bk 2 (P := 2) (ls' := [(0, .int a), (1, .int 0), (2, .int (-1))]) (st' := [.int 0, .int a]) (M' := s_M0) rfl ?_
        refine s_ek_if2 (T := 14) rfl rfl (fun h4 => ?_) (fun h4 => ?_)
        · replace h4 : a.toInt < 0 := h4
          refine s_ek_bk 1 (P := 15) (ls' := [(0, .int a), (1, .int 0), (2, .int (-1))]) (st' := [.int 0]) (M' := s_M0) rfl ?_
          refine s_ek_ret (o := some (.int 0)) (fun _ => rfl) ?_
          show s_Ek (s_rows 3 L xs) 1298 s_e201.1 11 [(0, .ref 151), (1, .int a)] [.int 0] s_M0 _
          refine s_ek_ret (o := some (.int 0)) (fun _ => rfl) ?_
          show s_Ek (s_rows 3 L xs) 1299 s_e234.1 5 [(0, .ref 151), (1, .int a), (2, .int b)] [.int 0] s_M0 _
          refine s_ek_bk 2 (P := 16) (ls' := [(0, .ref 151), (1, .int a), (2, .int b)]) (st' := [.int (-1)]) (M' := s_M0) rfl ?_
          refine s_ek_ret (o := some (.int (-1))) (fun _ => rfl) ?_
          exact rfl
        · replace h4 : ¬ (a.toInt < 0) := h4
          replace h4 : 0 ≤ a.toInt := by omega
          omega
      · replace h3 : ¬ (a.toInt < 0) := h3
        replace h3 : 0 ≤ a.toInt := by omega
        refine s_ek_bk 3 (P := 9) (ls' := [(0, .ref 8), (1, .int a)]) (st' := [.int 0, .int a]) (M' := s_M0) rfl ?_
        refine s_ek_if2 (T := 16) rfl rfl (fun h4 => ?_) (fun h4 => ?_)
        · replace h4 : 0 ≤ a.toInt := h4
          refine s_ek_bk 1 (P := 17) (ls' := [(0, .ref 8), (1, .int a)]) (st' := [.int 0]) (M' := s_M0) rfl ?_
          refine s_ek_ret (o := some (.int 0)) (fun _ => rfl) ?_
          show s_Ek (s_rows 3 L xs) 1299 s_e143.1 13 [(3, .int (-1)), (0, .ref 0), (1, .int a), (2, .int b)] [.int 0] s_M0 _
          refine s_ek_bk 2 (P := 21) (ls' := [(3, .int (-1)), (0, .ref 0), (1, .int a), (2, .int b)]) (st' := [.int (-1)]) (M' := s_M0) rfl ?_
          refine s_ek_ret (o := some (.int (-1))) (fun _ => rfl) ?_
          refine ⟨(-1), rfl, ?_⟩
          show s_Ek (s_rows 3 L xs) 1299 s_e234.1 0 [(0, .ref 151), (1, .int a), (2, .int b)] [] s_M0 _
          refine s_ek_bk 2 (P := 2) (ls' := [(0, .ref 151), (1, .int a), (2, .int b)]) (st' := [.int a, .ref 151]) (M' := s_M0) rfl ?_
          refine s_ek_call (ν := s_e201.1) (P := 5) (as := [.ref 151, .int a]) (r := []) (fun _ => rfl) rfl ?_
          show s_Ek (s_rows 3 L xs) 1298 s_e201.1 0 [(0, .ref 151), (1, .int a)] [] s_M0 _
          refine s_ek_bk 6 (P := 8) (ls' := [(0, .ref 151), (1, .int a)]) (st' := [.int (-1), .int 0, .int a]) (M' := s_M0) rfl ?_
          refine s_ek_call (ν := s_e181.1) (P := 11) (as := [.int a, .int 0, .int (-1)]) (r := []) (fun _ => rfl) rfl ?_
          show s_Ek (s_rows 3 L xs) 1297 s_e181.1 0 [(0, .int a), (1, .int 0), (2, .int (-1))] [] s_M0 _
          refine s_ek_bk 2 (P := 2) (ls' := [(0, .int a), (1, .int 0), (2, .int (-1))]) (st' := [.int 0, .int a]) (M' := s_M0) rfl ?_
          refine s_ek_if2 (T := 14) rfl rfl (fun h5 => ?_) (fun h5 => ?_)
          · replace h5 : a.toInt < 0 := h5
            omega
          · replace h5 : ¬ (a.toInt < 0) := h5
            replace h5 : 0 ≤ a.toInt := by omega
            refine s_ek_bk 2 (P := 7) (ls' := [(0, .int a), (1, .int 0), (2, .int (-1))]) (st' := [.int (-1), .int a]) (M' := s_M0) rfl ?_
            refine s_ek_if2 (T := 14) rfl rfl (fun h6 => ?_) (fun h6 => ?_)
            · replace h6 : (-1) < a.toInt := h6
              refine s_ek_bk 1 (P := 15) (ls' := [(0, .int a), (1, .int 0), (2, .int (-1))]) (st' := [.int 0]) (M' := s_M0) rfl ?_
              refine s_ek_ret (o := some (.int 0)) (fun _ => rfl) ?_
              show s_Ek (s_rows 3 L xs) 1298 s_e201.1 11 [(0, .ref 151), (1, .int a)] [.int 0] s_M0 _
              refine s_ek_ret (o := some (.int 0)) (fun _ => rfl) ?_
              show s_Ek (s_rows 3 L xs) 1299 s_e234.1 5 [(0, .ref 151), (1, .int a), (2, .int b)] [.int 0] s_M0 _
              refine s_ek_bk 2 (P := 16) (ls' := [(0, .ref 151), (1, .int a), (2, .int b)]) (st' := [.int (-1)]) (M' := s_M0) rfl ?_
              refine s_ek_ret (o := some (.int (-1))) (fun _ => rfl) ?_
              exact rfl
            · replace h6 : ¬ ((-1) < a.toInt) := h6
              replace h6 : a.toInt ≤ (-1) := by omega
              omega
        · replace h4 : ¬ (0 ≤ a.toInt) := h4
          replace h4 : a.toInt < 0 := by omega
          omega
    · replace h2 : ¬ (444 < b.toInt) := h2
      replace h2 : b.toInt ≤ 444 := by omega
      refine s_ek_bk 6 (P := 19) (ls' := [(0, .int b)]) (st' := [.int 4, .int ((b / 10) - (b / 10) / 10 * 10)]) (M' := s_M0) rfl ?_
      refine s_ek_if2 (T := 30) rfl rfl (fun h3 => ?_) (fun h3 => ?_)
      · replace h3 : 4 < ((b / 10) - (b / 10) / 10 * 10).toInt := h3
        refine s_ek_bk 1 (P := 31) (ls' := [(0, .int b)]) (st' := [.int (-1)]) (M' := s_M0) rfl ?_
        refine s_ek_ret (o := some (.int (-1))) (fun _ => rfl) ?_
        show s_Ek (s_rows 3 L xs) 1299 s_e143.1 4 [(0, .ref 0), (1, .int a), (2, .int b)] [.int (-1)] s_M0 _
        refine s_ek_bk 4 (P := 10) (ls' := [(3, .int (-1)), (0, .ref 0), (1, .int a), (2, .int b)]) (st' := [.int a, .ref 8]) (M' := s_M0) rfl ?_
        refine s_ek_call (ν := s_e40.1) (P := 13) (as := [.ref 8, .int a]) (r := []) (fun _ => rfl) rfl ?_
        show s_Ek (s_rows 3 L xs) 1298 s_e40.1 0 [(0, .ref 8), (1, .int a)] [] s_M0 _
        refine s_ek_bk 1 (P := 1) (ls' := [(0, .ref 8), (1, .int a)]) (st' := [.int a]) (M' := s_M0) rfl ?_
        refine s_ek_if1 (T := 16) rfl rfl (fun h4 => ?_) (fun h4 => ?_)
        · replace h4 : a.toInt < 0 := h4
          refine s_ek_bk 1 (P := 17) (ls' := [(0, .ref 8), (1, .int a)]) (st' := [.int 0]) (M' := s_M0) rfl ?_
          refine s_ek_ret (o := some (.int 0)) (fun _ => rfl) ?_
          show s_Ek (s_rows 3 L xs) 1299 s_e143.1 13 [(3, .int (-1)), (0, .ref 0), (1, .int a), (2, .int b)] [.int 0] s_M0 _
          refine s_ek_bk 2 (P := 21) (ls' := [(3, .int (-1)), (0, .ref 0), (1, .int a), (2, .int b)]) (st' := [.int (-1)]) (M' := s_M0) rfl ?_
          refine s_ek_ret (o := some (.int (-1))) (fun _ => rfl) ?_
          refine ⟨(-1), rfl, ?_⟩
          show s_Ek (s_rows 3 L xs) 1299 s_e234.1 0 [(0, .ref 151), (1, .int a), (2, .int b)] [] s_M0 _
          refine s_ek_bk 2 (P := 2) (ls' := [(0, .ref 151), (1, .int a), (2, .int b)]) (st' := [.int a, .ref 151]) (M' := s_M0) rfl ?_
          refine s_ek_call (ν := s_e201.1) (P := 5) (as := [.ref 151, .int a]) (r := []) (fun _ => rfl) rfl ?_
          show s_Ek (s_rows 3 L xs) 1298 s_e201.1 0 [(0, .ref 151), (1, .int a)] [] s_M0 _
          refine s_ek_bk 6 (P := 8) (ls' := [(0, .ref 151), (1, .int a)]) (st' := [.int (-1), .int 0, .int a]) (M' := s_M0) rfl ?_
          refine s_ek_call (ν := s_e181.1) (P := 11) (as := [.int a, .int 0, .int (-1)]) (r := []) (fun _ => rfl) rfl ?_
          show s_Ek (s_rows 3 L xs) 1297 s_e181.1 0 [(0, .int a), (1, .int 0), (2, .int (-1))] [] s_M0 _
          refine s_ek_bk 2 (P := 2) (ls' := [(0, .int a), (1, .int 0), (2, .int (-1))]) (st' := [.int 0, .int a]) (M' := s_M0) rfl ?_
          refine s_ek_if2 (T := 14) rfl rfl (fun h5 => ?_) (fun h5 => ?_)
          · replace h5 : a.toInt < 0 := h5
            refine s_ek_bk 1 (P := 15) (ls' := [(0, .int a), (1, .int 0), (2, .int (-1))]) (st' := [.int 0]) (M' := s_M0) rfl ?_
            refine s_ek_ret (o := some (.int 0)) (fun _ => rfl) ?_
            show s_Ek (s_rows 3 L xs) 1298 s_e201.1 11 [(0, .ref 151), (1, .int a)] [.int 0] s_M0 _
            refine s_ek_ret (o := some (.int 0)) (fun _ => rfl) ?_
            show s_Ek (s_rows 3 L xs) 1299 s_e234.1 5 [(0, .ref 151), (1, .int a), (2, .int b)] [.int 0] s_M0 _
            refine s_ek_bk 2 (P := 16) (ls' := [(0, .ref 151), (1, .int a), (2, .int b)]) (st' := [.int (-1)]) (M' := s_M0) rfl ?_
            refine s_ek_ret (o := some (.int (-1))) (fun _ => rfl) ?_
            exact rfl
          · replace h5 : ¬ (a.toInt < 0) := h5
            replace h5 : 0 ≤ a.toInt := by omega
            omega
        · replace h4 : ¬ (a.toInt < 0) := h4
          replace h4 : 0 ≤ a.toInt := by omega
          refine s_ek_bk 3 (P := 9) (ls' := [(0, .ref 8), (1, .int a)]) (st' := [.int 0, .int a]) (M' := s_M0) rfl ?_
          refine s_ek_if2 (T := 16) rfl rfl (fun h5 => ?_) (fun h5 => ?_)
          · replace h5 : 0 ≤ a.toInt := h5
            refine s_ek_bk 1 (P := 17) (ls' := [(0, .ref 8), (1, .int a)]) (st' := [.int 0]) (M' := s_M0) rfl ?_
            refine s_ek_ret (o := some (.int 0)) (fun _ => rfl) ?_
            show s_Ek (s_rows 3 L xs) 1299 s_e143.1 13 [(3, .int (-1)), (0, .ref 0), (1, .int a), (2, .int b)] [.int 0] s_M0 _
            refine s_ek_bk 2 (P := 21) (ls' := [(3, .int (-1)), (0, .ref 0), (1, .int a), (2, .int b)]) (st' := [.int (-1)]) (M' := s_M0) rfl ?_
            refine s_ek_ret (o := some (.int (-1))) (fun _ => rfl) ?_
            refine ⟨(-1), rfl, ?_⟩
            show s_Ek (s_rows 3 L xs) 1299 s_e234.1 0 [(0, .ref 151), (1, .int a), (2, .int b)] [] s_M0 _
            refine s_ek_bk 2 (P := 2) (ls' := [(0, .ref 151), (1, .int a), (2, .int b)]) (st' := [.int a, .ref 151]) (M' := s_M0) rfl ?_
            refine s_ek_call (ν := s_e201.1) (P := 5) (as := [.ref 151, .int a]) (r := []) (fun _ => rfl) rfl ?_
            show s_Ek (s_rows 3 L xs) 1298 s_e201.1 0 [(0, .ref 151), (1, .int a)] [] s_M0 _
            refine s_ek_bk 6 (P := 8) (ls' := [(0, .ref 151), (1, .int a)]) (st' := [.int (-1), .int 0, .int a]) (M' := s_M0) rfl ?_
            refine s_ek_call (ν := s_e181.1) (P := 11) (as := [.int a, .int 0, .int (-1)]) (r := []) (fun _ => rfl) rfl ?_
            show s_Ek (s_rows 3 L xs) 1297 s_e181.1 0 [(0, .int a), (1, .int 0), (2, .int (-1))] [] s_M0 _
            refine s_ek_bk 2 (P := 2) (ls' := [(0, .int a), (1, .int 0), (2, .int (-1))]) (st' := [.int 0, .int a]) (M' := s_M0) rfl ?_
            refine s_ek_if2 (T := 14) rfl rfl (fun h6 => ?_) (fun h6 => ?_)
            · replace h6 : a.toInt < 0 := h6
              omega
            · replace h6 : ¬ (a.toInt < 0) := h6
              replace h6 : 0 ≤ a.toInt := by omega
              refine s_ek_bk 2 (P := 7) (ls' := [(0, .int a), (1, .int 0), (2, .int (-1))]) (st' := [.int (-1), .int a]) (M' := s_M0) rfl ?_
              refine s_ek_if2 (T := 14) rfl rfl (fun h7 => ?_) (fun h7 => ?_)
              · replace h7 : (-1) < a.toInt := h7
                refine s_ek_bk 1 (P := 15) (ls' := [(0, .int a), (1, .int 0), (2, .int (-1))]) (st' := [.int 0]) (M' := s_M0) rfl ?_
                refine s_ek_ret (o := some (.int 0)) (fun _ => rfl) ?_
                show s_Ek (s_rows 3 L xs) 1298 s_e201.1 11 [(0, .ref 151), (1, .int a)] [.int 0] s_M0 _
                refine s_ek_ret (o := some (.int 0)) (fun _ => rfl) ?_
                show s_Ek (s_rows 3 L xs) 1299 s_e234.1 5 [(0, .ref 151), (1, .int a), (2, .int b)] [.int 0] s_M0 _
                refine s_ek_bk 2 (P := 16) (ls' := [(0, .ref 151), (1, .int a), (2, .int b)]) (st' := [.int (-1)]) (M' := s_M0) rfl ?_
                refine s_ek_ret (o := some (.int (-1))) (fun _ => rfl) ?_
                exact rfl
              · replace h7 : ¬ ((-1) < a.toInt) := h7
                replace h7 : a.toInt ≤ (-1) := by omega
                omega
          · replace h5 : ¬ (0 ≤ a.toInt) := h5
            replace h5 : a.toInt < 0 := by omega
            omega
      · replace h3 : ¬ (4 < ((b / 10) - (b / 10) / 10 * 10).toInt) := h3
        replace h3 : ((b / 10) - (b / 10) / 10 * 10).toInt ≤ 4 := by omega
        refine s_ek_bk 4 (P := 27) (ls' := [(0, .int b)]) (st' := [.int 4, .int (b - b / 10 * 10)]) (M' := s_M0) rfl ?_
        refine s_ek_if2 (T := 32) rfl rfl (fun h4 => ?_) (fun h4 => ?_)
        · replace h4 : (b - b / 10 * 10).toInt ≤ 4 := h4
          refine s_ek_bk 17 (P := 54) (ls' := [(0, .int b)]) (st' := [.int ((((b / 100) * 25) + (((b / 10) - (b / 10) / 10 * 10) * 5)) + (b - b / 10 * 10))]) (M' := s_M0) rfl ?_
          refine s_ek_ret (o := some (.int ((((b / 100) * 25) + (((b / 10) - (b / 10) / 10 * 10) * 5)) + (b - b / 10 * 10)))) (fun _ => rfl) ?_
          show s_Ek (s_rows 3 L xs) 1299 s_e143.1 4 [(0, .ref 0), (1, .int a), (2, .int b)] [.int ((((b / 100) * 25) + (((b / 10) - (b / 10) / 10 * 10) * 5)) + (b - b / 10 * 10))] s_M0 _
          refine s_ek_bk 4 (P := 10) (ls' := [(3, .int ((((b / 100) * 25) + (((b / 10) - (b / 10) / 10 * 10) * 5)) + (b - b / 10 * 10))), (0, .ref 0), (1, .int a), (2, .int b)]) (st' := [.int a, .ref 8]) (M' := s_M0) rfl ?_
          refine s_ek_call (ν := s_e40.1) (P := 13) (as := [.ref 8, .int a]) (r := []) (fun _ => rfl) rfl ?_
          show s_Ek (s_rows 3 L xs) 1298 s_e40.1 0 [(0, .ref 8), (1, .int a)] [] s_M0 _
          refine s_ek_bk 1 (P := 1) (ls' := [(0, .ref 8), (1, .int a)]) (st' := [.int a]) (M' := s_M0) rfl ?_
          refine s_ek_if1 (T := 16) rfl rfl (fun h5 => ?_) (fun h5 => ?_)
          · replace h5 : a.toInt < 0 := h5
            refine s_ek_bk 1 (P := 17) (ls' := [(0, .ref 8), (1, .int a)]) (st' := [.int 0]) (M' := s_M0) rfl ?_
            refine s_ek_ret (o := some (.int 0)) (fun _ => rfl) ?_
            show s_Ek (s_rows 3 L xs) 1299 s_e143.1 13 [(3, .int ((((b / 100) * 25) + (((b / 10) - (b / 10) / 10 * 10) * 5)) + (b - b / 10 * 10))), (0, .ref 0), (1, .int a), (2, .int b)] [.int 0] s_M0 _
            refine s_ek_bk 2 (P := 21) (ls' := [(3, .int ((((b / 100) * 25) + (((b / 10) - (b / 10) / 10 * 10) * 5)) + (b - b / 10 * 10))), (0, .ref 0), (1, .int a), (2, .int b)]) (st' := [.int (-1)]) (M' := s_M0) rfl ?_
            refine s_ek_ret (o := some (.int (-1))) (fun _ => rfl) ?_
            refine ⟨(-1), rfl, ?_⟩
            show s_Ek (s_rows 3 L xs) 1299 s_e234.1 0 [(0, .ref 151), (1, .int a), (2, .int b)] [] s_M0 _
            refine s_ek_bk 2 (P := 2) (ls' := [(0, .ref 151), (1, .int a), (2, .int b)]) (st' := [.int a, .ref 151]) (M' := s_M0) rfl ?_
            refine s_ek_call (ν := s_e201.1) (P := 5) (as := [.ref 151, .int a]) (r := []) (fun _ => rfl) rfl ?_
            show s_Ek (s_rows 3 L xs) 1298 s_e201.1 0 [(0, .ref 151), (1, .int a)] [] s_M0 _
            refine s_ek_bk 6 (P := 8) (ls' := [(0, .ref 151), (1, .int a)]) (st' := [.int (-1), .int 0, .int a]) (M' := s_M0) rfl ?_
            refine s_ek_call (ν := s_e181.1) (P := 11) (as := [.int a, .int 0, .int (-1)]) (r := []) (fun _ => rfl) rfl ?_
            show s_Ek (s_rows 3 L xs) 1297 s_e181.1 0 [(0, .int a), (1, .int 0), (2, .int (-1))] [] s_M0 _
            refine s_ek_bk 2 (P := 2) (ls' := [(0, .int a), (1, .int 0), (2, .int (-1))]) (st' := [.int 0, .int a]) (M' := s_M0) rfl ?_
            refine s_ek_if2 (T := 14) rfl rfl (fun h6 => ?_) (fun h6 => ?_)
            · replace h6 : a.toInt < 0 := h6
              refine s_ek_bk 1 (P := 15) (ls' := [(0, .int a), (1, .int 0), (2, .int (-1))]) (st' := [.int 0]) (M' := s_M0) rfl ?_
              refine s_ek_ret (o := some (.int 0)) (fun _ => rfl) ?_
              show s_Ek (s_rows 3 L xs) 1298 s_e201.1 11 [(0, .ref 151), (1, .int a)] [.int 0] s_M0 _
              refine s_ek_ret (o := some (.int 0)) (fun _ => rfl) ?_
              show s_Ek (s_rows 3 L xs) 1299 s_e234.1 5 [(0, .ref 151), (1, .int a), (2, .int b)] [.int 0] s_M0 _
              refine s_ek_bk 2 (P := 16) (ls' := [(0, .ref 151), (1, .int a), (2, .int b)]) (st' := [.int (-1)]) (M' := s_M0) rfl ?_
              refine s_ek_ret (o := some (.int (-1))) (fun _ => rfl) ?_
              exact rfl
            · replace h6 : ¬ (a.toInt < 0) := h6
              replace h6 : 0 ≤ a.toInt := by omega
              omega
          · replace h5 : ¬ (a.toInt < 0) := h5
            replace h5 : 0 ≤ a.toInt := by omega
            refine s_ek_bk 3 (P := 9) (ls' := [(0, .ref 8), (1, .int a)]) (st' := [.int 0, .int a]) (M' := s_M0) rfl ?_
            refine s_ek_if2 (T := 16) rfl rfl (fun h6 => ?_) (fun h6 => ?_)
            · replace h6 : 0 ≤ a.toInt := h6
              refine s_ek_bk 1 (P := 17) (ls' := [(0, .ref 8), (1, .int a)]) (st' := [.int 0]) (M' := s_M0) rfl ?_
              refine s_ek_ret (o := some (.int 0)) (fun _ => rfl) ?_
              show s_Ek (s_rows 3 L xs) 1299 s_e143.1 13 [(3, .int ((((b / 100) * 25) + (((b / 10) - (b / 10) / 10 * 10) * 5)) + (b - b / 10 * 10))), (0, .ref 0), (1, .int a), (2, .int b)] [.int 0] s_M0 _
              refine s_ek_bk 2 (P := 21) (ls' := [(3, .int ((((b / 100) * 25) + (((b / 10) - (b / 10) / 10 * 10) * 5)) + (b - b / 10 * 10))), (0, .ref 0), (1, .int a), (2, .int b)]) (st' := [.int (-1)]) (M' := s_M0) rfl ?_
              refine s_ek_ret (o := some (.int (-1))) (fun _ => rfl) ?_
              refine ⟨(-1), rfl, ?_⟩
              show s_Ek (s_rows 3 L xs) 1299 s_e234.1 0 [(0, .ref 151), (1, .int a), (2, .int b)] [] s_M0 _
              refine s_ek_bk 2 (P := 2) (ls' := [(0, .ref 151), (1, .int a), (2, .int b)]) (st' := [.int a, .ref 151]) (M' := s_M0) rfl ?_
              refine s_ek_call (ν := s_e201.1) (P := 5) (as := [.ref 151, .int a]) (r := []) (fun _ => rfl) rfl ?_
              show s_Ek (s_rows 3 L xs) 1298 s_e201.1 0 [(0, .ref 151), (1, .int a)] [] s_M0 _
              refine s_ek_bk 6 (P := 8) (ls' := [(0, .ref 151), (1, .int a)]) (st' := [.int (-1), .int 0, .int a]) (M' := s_M0) rfl ?_
              refine s_ek_call (ν := s_e181.1) (P := 11) (as := [.int a, .int 0, .int (-1)]) (r := []) (fun _ => rfl) rfl ?_
              show s_Ek (s_rows 3 L xs) 1297 s_e181.1 0 [(0, .int a), (1, .int 0), (2, .int (-1))] [] s_M0 _
              refine s_ek_bk 2 (P := 2) (ls' := [(0, .int a), (1, .int 0), (2, .int (-1))]) (st' := [.int 0, .int a]) (M' := s_M0) rfl ?_
              refine s_ek_if2 (T := 14) rfl rfl (fun h7 => ?_) (fun h7 => ?_)
              · replace h7 : a.toInt < 0 := h7
                omega
              · replace h7 : ¬ (a.toInt < 0) := h7
                replace h7 : 0 ≤ a.toInt := by omega
                refine s_ek_bk 2 (P := 7) (ls' := [(0, .int a), (1, .int 0), (2, .int (-1))]) (st' := [.int (-1), .int a]) (M' := s_M0) rfl ?_
                refine s_ek_if2 (T := 14) rfl rfl (fun h8 => ?_) (fun h8 => ?_)
                · replace h8 : (-1) < a.toInt := h8
                  refine s_ek_bk 1 (P := 15) (ls' := [(0, .int a), (1, .int 0), (2, .int (-1))]) (st' := [.int 0]) (M' := s_M0) rfl ?_
                  refine s_ek_ret (o := some (.int 0)) (fun _ => rfl) ?_
                  show s_Ek (s_rows 3 L xs) 1298 s_e201.1 11 [(0, .ref 151), (1, .int a)] [.int 0] s_M0 _
                  refine s_ek_ret (o := some (.int 0)) (fun _ => rfl) ?_
                  show s_Ek (s_rows 3 L xs) 1299 s_e234.1 5 [(0, .ref 151), (1, .int a), (2, .int b)] [.int 0] s_M0 _
                  refine s_ek_bk 2 (P := 16) (ls' := [(0, .ref 151), (1, .int a), (2, .int b)]) (st' := [.int (-1)]) (M' := s_M0) rfl ?_
                  refine s_ek_ret (o := some (.int (-1))) (fun _ => rfl) ?_
                  exact rfl
                · replace h8 : ¬ ((-1) < a.toInt) := h8
                  replace h8 : a.toInt ≤ (-1) := by omega
                  omega
            · replace h6 : ¬ (0 ≤ a.toInt) := h6
              replace h6 : a.toInt < 0 := by omega
              omega
        · replace h4 : ¬ ((b - b / 10 * 10).toInt ≤ 4) := h4
          replace h4 : 4 < (b - b / 10 * 10).toInt := by omega
          refine s_ek_bk 1 (P := 31) (ls' := [(0, .int b)]) (st' := [.int (-1)]) (M' := s_M0) rfl ?_
          refine s_ek_ret (o := some (.int (-1))) (fun _ => rfl) ?_
          show s_Ek (s_rows 3 L xs) 1299 s_e143.1 4 [(0, .ref 0), (1, .int a), (2, .int b)] [.int (-1)] s_M0 _
          refine s_ek_bk 4 (P := 10) (ls' := [(3, .int (-1)), (0, .ref 0), (1, .int a), (2, .int b)]) (st' := [.int a, .ref 8]) (M' := s_M0) rfl ?_
          refine s_ek_call (ν := s_e40.1) (P := 13) (as := [.ref 8, .int a]) (r := []) (fun _ => rfl) rfl ?_
          show s_Ek (s_rows 3 L xs) 1298 s_e40.1 0 [(0, .ref 8), (1, .int a)] [] s_M0 _
          refine s_ek_bk 1 (P := 1) (ls' := [(0, .ref 8), (1, .int a)]) (st' := [.int a]) (M' := s_M0) rfl ?_
          refine s_ek_if1 (T := 16) rfl rfl (fun h5 => ?_) (fun h5 => ?_)
          · replace h5 : a.toInt < 0 := h5
            refine s_ek_bk 1 (P := 17) (ls' := [(0, .ref 8), (1, .int a)]) (st' := [.int 0]) (M' := s_M0) rfl ?_
            refine s_ek_ret (o := some (.int 0)) (fun _ => rfl) ?_
            show s_Ek (s_rows 3 L xs) 1299 s_e143.1 13 [(3, .int (-1)), (0, .ref 0), (1, .int a), (2, .int b)] [.int 0] s_M0 _
            refine s_ek_bk 2 (P := 21) (ls' := [(3, .int (-1)), (0, .ref 0), (1, .int a), (2, .int b)]) (st' := [.int (-1)]) (M' := s_M0) rfl ?_
            refine s_ek_ret (o := some (.int (-1))) (fun _ => rfl) ?_
            refine ⟨(-1), rfl, ?_⟩
            show s_Ek (s_rows 3 L xs) 1299 s_e234.1 0 [(0, .ref 151), (1, .int a), (2, .int b)] [] s_M0 _
            refine s_ek_bk 2 (P := 2) (ls' := [(0, .ref 151), (1, .int a), (2, .int b)]) (st' := [.int a, .ref 151]) (M' := s_M0) rfl ?_
            refine s_ek_call (ν := s_e201.1) (P := 5) (as := [.ref 151, .int a]) (r := []) (fun _ => rfl) rfl ?_
            show s_Ek (s_rows 3 L xs) 1298 s_e201.1 0 [(0, .ref 151), (1, .int a)] [] s_M0 _
            refine s_ek_bk 6 (P := 8) (ls' := [(0, .ref 151), (1, .int a)]) (st' := [.int (-1), .int 0, .int a]) (M' := s_M0) rfl ?_
            refine s_ek_call (ν := s_e181.1) (P := 11) (as := [.int a, .int 0, .int (-1)]) (r := []) (fun _ => rfl) rfl ?_
            show s_Ek (s_rows 3 L xs) 1297 s_e181.1 0 [(0, .int a), (1, .int 0), (2, .int (-1))] [] s_M0 _
            refine s_ek_bk 2 (P := 2) (ls' := [(0, .int a), (1, .int 0), (2, .int (-1))]) (st' := [.int 0, .int a]) (M' := s_M0) rfl ?_
            refine s_ek_if2 (T := 14) rfl rfl (fun h6 => ?_) (fun h6 => ?_)
            · replace h6 : a.toInt < 0 := h6
              refine s_ek_bk 1 (P := 15) (ls' := [(0, .int a), (1, .int 0), (2, .int (-1))]) (st' := [.int 0]) (M' := s_M0) rfl ?_
              refine s_ek_ret (o := some (.int 0)) (fun _ => rfl) ?_
              show s_Ek (s_rows 3 L xs) 1298 s_e201.1 11 [(0, .ref 151), (1, .int a)] [.int 0] s_M0 _
              refine s_ek_ret (o := some (.int 0)) (fun _ => rfl) ?_
              show s_Ek (s_rows 3 L xs) 1299 s_e234.1 5 [(0, .ref 151), (1, .int a), (2, .int b)] [.int 0] s_M0 _
              refine s_ek_bk 2 (P := 16) (ls' := [(0, .ref 151), (1, .int a), (2, .int b)]) (st' := [.int (-1)]) (M' := s_M0) rfl ?_
              refine s_ek_ret (o := some (.int (-1))) (fun _ => rfl) ?_
              exact rfl
            · replace h6 : ¬ (a.toInt < 0) := h6
              replace h6 : 0 ≤ a.toInt := by omega
              omega
          · replace h5 : ¬ (a.toInt < 0) := h5
            replace h5 : 0 ≤ a.toInt := by omega
            refine s_ek_bk 3 (P := 9) (ls' := [(0, .ref 8), (1, .int a)]) (st' := [.int 0, .int a]) (M' := s_M0) rfl ?_
            refine s_ek_if2 (T := 16) rfl rfl (fun h6 => ?_) (fun h6 => ?_)
            · replace h6 : 0 ≤ a.toInt := h6
              refine s_ek_bk 1 (P := 17) (ls' := [(0, .ref 8), (1, .int a)]) (st' := [.int 0]) (M' := s_M0) rfl ?_
              refine s_ek_ret (o := some (.int 0)) (fun _ => rfl) ?_
              show s_Ek (s_rows 3 L xs) 1299 s_e143.1 13 [(3, .int (-1)), (0, .ref 0), (1, .int a), (2, .int b)] [.int 0] s_M0 _
              refine s_ek_bk 2 (P := 21) (ls' := [(3, .int (-1)), (0, .ref 0), (1, .int a), (2, .int b)]) (st' := [.int (-1)]) (M' := s_M0) rfl ?_
              refine s_ek_ret (o := some (.int (-1))) (fun _ => rfl) ?_
              refine ⟨(-1), rfl, ?_⟩
              show s_Ek (s_rows 3 L xs) 1299 s_e234.1 0 [(0, .ref 151), (1, .int a), (2, .int b)] [] s_M0 _
              refine s_ek_bk 2 (P := 2) (ls' := [(0, .ref 151), (1, .int a), (2, .int b)]) (st' := [.int a, .ref 151]) (M' := s_M0) rfl ?_
              refine s_ek_call (ν := s_e201.1) (P := 5) (as := [.ref 151, .int a]) (r := []) (fun _ => rfl) rfl ?_
              show s_Ek (s_rows 3 L xs) 1298 s_e201.1 0 [(0, .ref 151), (1, .int a)] [] s_M0 _
              refine s_ek_bk 6 (P := 8) (ls' := [(0, .ref 151), (1, .int a)]) (st' := [.int (-1), .int 0, .int a]) (M' := s_M0) rfl ?_
              refine s_ek_call (ν := s_e181.1) (P := 11) (as := [.int a, .int 0, .int (-1)]) (r := []) (fun _ => rfl) rfl ?_
              show s_Ek (s_rows 3 L xs) 1297 s_e181.1 0 [(0, .int a), (1, .int 0), (2, .int (-1))] [] s_M0 _
              refine s_ek_bk 2 (P := 2) (ls' := [(0, .int a), (1, .int 0), (2, .int (-1))]) (st' := [.int 0, .int a]) (M' := s_M0) rfl ?_
              refine s_ek_if2 (T := 14) rfl rfl (fun h7 => ?_) (fun h7 => ?_)
              · replace h7 : a.toInt < 0 := h7
                omega
              · replace h7 : ¬ (a.toInt < 0) := h7
                replace h7 : 0 ≤ a.toInt := by omega
                refine s_ek_bk 2 (P := 7) (ls' := [(0, .int a), (1, .int 0), (2, .int (-1))]) (st' := [.int (-1), .int a]) (M' := s_M0) rfl ?_
                refine s_ek_if2 (T := 14) rfl rfl (fun h8 => ?_) (fun h8 => ?_)
                · replace h8 : (-1) < a.toInt := h8
                  refine s_ek_bk 1 (P := 15) (ls' := [(0, .int a), (1, .int 0), (2, .int (-1))]) (st' := [.int 0]) (M' := s_M0) rfl ?_
                  refine s_ek_ret (o := some (.int 0)) (fun _ => rfl) ?_
                  show s_Ek (s_rows 3 L xs) 1298 s_e201.1 11 [(0, .ref 151), (1, .int a)] [.int 0] s_M0 _
                  refine s_ek_ret (o := some (.int 0)) (fun _ => rfl) ?_
                  show s_Ek (s_rows 3 L xs) 1299 s_e234.1 5 [(0, .ref 151), (1, .int a), (2, .int b)] [.int 0] s_M0 _
                  refine s_ek_bk 2 (P := 16) (ls' := [(0, .ref 151), (1, .int a), (2, .int b)]) (st' := [.int (-1)]) (M' := s_M0) rfl ?_
                  refine s_ek_ret (o := some (.int (-1))) (fun _ => rfl) ?_
                  exact rfl
                · replace h8 : ¬ ((-1) < a.toInt) := h8
                  replace h8 : a.toInt ≤ (-1) := by omega
                  omega
            · replace h6 : ¬ (0 ≤ a.toInt) := h6
              replace h6 : a.toInt < 0 := by omega
              omega
