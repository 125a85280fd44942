def s_t1 (o : sR) : Bool := match o with
  | some (some (.int x), M) => decide (x = 1) && Nat.beq M.length 185
  | _ => false
set_option maxRecDepth 1000000 in
theorem s_test : s_t1 (s_x s_prog s_fty s_ft (s_rows 0 (fun _ => 0)) 100000 1300 s_law 0 [(0, .retAddr 2)] [] []) = true := by decide +kernel
