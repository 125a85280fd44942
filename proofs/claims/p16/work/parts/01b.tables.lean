/-! a method's place in the tables -/
theorem tb_L : (k2_sels lw_privs).length = 103 := by decide +kernel
theorem tb_w {i : Nat} {x : Jvm.Cond} (h : tables_1[i]? = some x) : lw_tbl[103 + i]? = some x := by
  unfold lw_tbl
  rw [List.getElem?_append_right (by rw [tb_L]; omega), tb_L, show 103 + i - 103 = i by omega]
  exact h
theorem tb_q1 {n i : Nat} {x : Jvm.Cond} (h : tables_1_1[i]? = some x) (hn : n = 103 + i) : lw_tbl[n]? = some x := by
  rw [hn, show 103 + i = 103 + (0 + i) by omega]
  exact tb_w (tb_g1 h)
theorem tb_q2 {n i : Nat} {x : Jvm.Cond} (h : tables_1_2[i]? = some x) (hn : n = 343 + i) : lw_tbl[n]? = some x := by
  rw [hn, show 343 + i = 103 + (240 + i) by omega]
  exact tb_w (tb_g2 h)
theorem tb_q3 {n i : Nat} {x : Jvm.Cond} (h : tables_1_3[i]? = some x) (hn : n = 583 + i) : lw_tbl[n]? = some x := by
  rw [hn, show 583 + i = 103 + (480 + i) by omega]
  exact tb_w (tb_g3 h)
theorem tb_q4 {n i : Nat} {x : Jvm.Cond} (h : tables_1_4[i]? = some x) (hn : n = 823 + i) : lw_tbl[n]? = some x := by
  rw [hn, show 823 + i = 103 + (720 + i) by omega]
  exact tb_w (tb_g4 h)
theorem tb_q5 {n i : Nat} {x : Jvm.Cond} (h : tables_1_5[i]? = some x) (hn : n = 1063 + i) : lw_tbl[n]? = some x := by
  rw [hn, show 1063 + i = 103 + (960 + i) by omega]
  exact tb_w (tb_g5 h)
theorem tb_q6 {n i : Nat} {x : Jvm.Cond} (h : tables_1_6[i]? = some x) (hn : n = 1303 + i) : lw_tbl[n]? = some x := by
  rw [hn, show 1303 + i = 103 + (1200 + i) by omega]
  exact tb_w (tb_g6 h)
theorem tb_q7 {n i : Nat} {x : Jvm.Cond} (h : tables_1_7[i]? = some x) (hn : n = 1543 + i) : lw_tbl[n]? = some x := by
  rw [hn, show 1543 + i = 103 + (1440 + i) by omega]
  exact tb_w (tb_g7 h)
