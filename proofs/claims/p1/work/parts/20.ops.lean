theorem s_pin {a : Int32} {k : Int} {v : Int32} (h : a.toInt = k) (hv : v.toInt = k) : a = v := Int32.toInt_inj.mp (h.trans hv.symm)
set_option maxHeartbeats 8000000 in
set_option maxRecDepth 100000 in
theorem s_op_feed (L : Nat) (xs : Nat → Int32) (a : Int32) : s_Ek (s_rows 3 L xs) 1299 s_e134.1 0 (lv_args 0 [.ref 0, .int a]) [] s_M0 (fun v M1 => ∃ r : Int32, v = some (.int r) ∧ s_Ek (s_rows 3 L xs) 1299 s_e183.1 0 (lv_args 0 [.ref 151, .int a]) [] M1 (fun w _ => w = some (.int r))) := by
  show s_Ek (s_rows 3 L xs) 1299 s_e134.1 0 [(0, .ref 0), (1, .int a)] [] s_M0 _
  refine s_ek_bk 1 (P := 1) (ls' := [(0, .ref 0), (1, .int a)]) (st' := [.int a]) (M' := s_M0) rfl ?_
  refine s_ek_if1 (T := 11) rfl rfl (fun h1 => ?_) (fun h1 => ?_)
  · replace h1 : a.toInt < 0 := h1
    refine s_ek_bk 1 (P := 12) (ls' := [(0, .ref 0), (1, .int a)]) (st' := [.int (-1)]) (M' := s_M0) rfl ?_
    refine s_ek_ret (o := some (.int (-1))) (fun _ => rfl) ?_
    refine ⟨(-1), rfl, ?_⟩
    show s_Ek (s_rows 3 L xs) 1299 s_e183.1 0 [(0, .ref 151), (1, .int a)] [] s_M0 _
    refine s_ek_bk 3 (P := 5) (ls' := [(0, .ref 151), (1, .int a)]) (st' := [.int 255, .int 0, .int a]) (M' := s_M0) rfl ?_
    refine s_ek_call (ν := s_e181.1) (P := 8) (as := [.int a, .int 0, .int 255]) (r := []) (fun _ => rfl) rfl ?_
    show s_Ek (s_rows 3 L xs) 1298 s_e181.1 0 [(0, .int a), (1, .int 0), (2, .int 255)] [] s_M0 _
    refine s_ek_bk 2 (P := 2) (ls' := [(0, .int a), (1, .int 0), (2, .int 255)]) (st' := [.int 0, .int a]) (M' := s_M0) rfl ?_
    refine s_ek_if2 (T := 14) rfl rfl (fun h2 => ?_) (fun h2 => ?_)
    · replace h2 : a.toInt < 0 := h2
      refine s_ek_bk 1 (P := 15) (ls' := [(0, .int a), (1, .int 0), (2, .int 255)]) (st' := [.int 0]) (M' := s_M0) rfl ?_
      refine s_ek_ret (o := some (.int 0)) (fun _ => rfl) ?_
      show s_Ek (s_rows 3 L xs) 1299 s_e183.1 8 [(0, .ref 151), (1, .int a)] [.int 0] s_M0 _
      refine s_ek_bk 2 (P := 12) (ls' := [(0, .ref 151), (1, .int a)]) (st' := [.int (-1)]) (M' := s_M0) rfl ?_
      refine s_ek_ret (o := some (.int (-1))) (fun _ => rfl) ?_
      exact rfl
    · replace h2 : ¬ (a.toInt < 0) := h2
      replace h2 : 0 ≤ a.toInt := by omega
      omega
  · replace h1 : ¬ (a.toInt < 0) := h1
    replace h1 : 0 ≤ a.toInt := by omega
    refine s_ek_bk 2 (P := 8) (ls' := [(0, .ref 0), (1, .int a)]) (st' := [.int 255, .int a]) (M' := s_M0) rfl ?_
    refine s_ek_if2 (T := 13) rfl rfl (fun h2 => ?_) (fun h2 => ?_)
    · replace h2 : a.toInt ≤ 255 := h2
      refine s_ek_bk 23 (P := 59) (ls' := [(0, .ref 0), (1, .int a)]) (st' := [.int 1]) (M' := (s_w (s_w s_M0 1 0 (.int a)) 0 1 (.int 1))) rfl ?_
      refine s_ek_ret (o := some (.int 1)) (fun _ => rfl) ?_
      refine ⟨1, rfl, ?_⟩
      show s_Ek (s_rows 3 L xs) 1299 s_e183.1 0 [(0, .ref 151), (1, .int a)] [] (s_w (s_w s_M0 1 0 (.int a)) 0 1 (.int 1)) _
      refine s_ek_bk 3 (P := 5) (ls' := [(0, .ref 151), (1, .int a)]) (st' := [.int 255, .int 0, .int a]) (M' := (s_w (s_w s_M0 1 0 (.int a)) 0 1 (.int 1))) rfl ?_
      refine s_ek_call (ν := s_e181.1) (P := 8) (as := [.int a, .int 0, .int 255]) (r := []) (fun _ => rfl) rfl ?_
      show s_Ek (s_rows 3 L xs) 1298 s_e181.1 0 [(0, .int a), (1, .int 0), (2, .int 255)] [] (s_w (s_w s_M0 1 0 (.int a)) 0 1 (.int 1)) _
      refine s_ek_bk 2 (P := 2) (ls' := [(0, .int a), (1, .int 0), (2, .int 255)]) (st' := [.int 0, .int a]) (M' := (s_w (s_w s_M0 1 0 (.int a)) 0 1 (.int 1))) rfl ?_
      refine s_ek_if2 (T := 14) rfl rfl (fun h3 => ?_) (fun h3 => ?_)
      · replace h3 : a.toInt < 0 := h3
        omega
      · replace h3 : ¬ (a.toInt < 0) := h3
        replace h3 : 0 ≤ a.toInt := by omega
        refine s_ek_bk 2 (P := 7) (ls' := [(0, .int a), (1, .int 0), (2, .int 255)]) (st' := [.int 255, .int a]) (M' := (s_w (s_w s_M0 1 0 (.int a)) 0 1 (.int 1))) rfl ?_
        refine s_ek_if2 (T := 14) rfl rfl (fun h4 => ?_) (fun h4 => ?_)
        · replace h4 : 255 < a.toInt := h4
          omega
        · replace h4 : ¬ (255 < a.toInt) := h4
          replace h4 : a.toInt ≤ 255 := by omega
          refine s_ek_bk 2 (P := 15) (ls' := [(0, .int a), (1, .int 0), (2, .int 255)]) (st' := [.int 1]) (M' := (s_w (s_w s_M0 1 0 (.int a)) 0 1 (.int 1))) rfl ?_
          refine s_ek_ret (o := some (.int 1)) (fun _ => rfl) ?_
          show s_Ek (s_rows 3 L xs) 1299 s_e183.1 8 [(0, .ref 151), (1, .int a)] [.int 1] (s_w (s_w s_M0 1 0 (.int a)) 0 1 (.int 1)) _
          refine s_ek_bk 20 (P := 50) (ls' := [(0, .ref 151), (1, .int a)]) (st' := [.int 1]) (M' := (s_w (s_w (s_w (s_w s_M0 1 0 (.int a)) 0 1 (.int 1)) 152 0 (.int (vp_nar .byte (a).toInt8.toInt32))) 151 2 (.int 1))) rfl ?_
          refine s_ek_ret (o := some (.int 1)) (fun _ => rfl) ?_
          exact rfl
    · replace h2 : ¬ (a.toInt ≤ 255) := h2
      replace h2 : 255 < a.toInt := by omega
      refine s_ek_bk 1 (P := 12) (ls' := [(0, .ref 0), (1, .int a)]) (st' := [.int (-1)]) (M' := s_M0) rfl ?_
      refine s_ek_ret (o := some (.int (-1))) (fun _ => rfl) ?_
      refine ⟨(-1), rfl, ?_⟩
      show s_Ek (s_rows 3 L xs) 1299 s_e183.1 0 [(0, .ref 151), (1, .int a)] [] s_M0 _
      refine s_ek_bk 3 (P := 5) (ls' := [(0, .ref 151), (1, .int a)]) (st' := [.int 255, .int 0, .int a]) (M' := s_M0) rfl ?_
      refine s_ek_call (ν := s_e181.1) (P := 8) (as := [.int a, .int 0, .int 255]) (r := []) (fun _ => rfl) rfl ?_
      show s_Ek (s_rows 3 L xs) 1298 s_e181.1 0 [(0, .int a), (1, .int 0), (2, .int 255)] [] s_M0 _
      refine s_ek_bk 2 (P := 2) (ls' := [(0, .int a), (1, .int 0), (2, .int 255)]) (st' := [.int 0, .int a]) (M' := s_M0) rfl ?_
      refine s_ek_if2 (T := 14) rfl rfl (fun h3 => ?_) (fun h3 => ?_)
      · replace h3 : a.toInt < 0 := h3
        omega
      · replace h3 : ¬ (a.toInt < 0) := h3
        replace h3 : 0 ≤ a.toInt := by omega
        refine s_ek_bk 2 (P := 7) (ls' := [(0, .int a), (1, .int 0), (2, .int 255)]) (st' := [.int 255, .int a]) (M' := s_M0) rfl ?_
        refine s_ek_if2 (T := 14) rfl rfl (fun h4 => ?_) (fun h4 => ?_)
        · replace h4 : 255 < a.toInt := h4
          refine s_ek_bk 1 (P := 15) (ls' := [(0, .int a), (1, .int 0), (2, .int 255)]) (st' := [.int 0]) (M' := s_M0) rfl ?_
          refine s_ek_ret (o := some (.int 0)) (fun _ => rfl) ?_
          show s_Ek (s_rows 3 L xs) 1299 s_e183.1 8 [(0, .ref 151), (1, .int a)] [.int 0] s_M0 _
          refine s_ek_bk 2 (P := 12) (ls' := [(0, .ref 151), (1, .int a)]) (st' := [.int (-1)]) (M' := s_M0) rfl ?_
          refine s_ek_ret (o := some (.int (-1))) (fun _ => rfl) ?_
          exact rfl
        · replace h4 : ¬ (255 < a.toInt) := h4
          replace h4 : a.toInt ≤ 255 := by omega
          omega
