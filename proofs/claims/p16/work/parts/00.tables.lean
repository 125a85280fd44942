/-! the tables, one by one -/
theorem tb_l1 : tables_1_1.length = 240 := by decide +kernel
theorem tb_l2 : tables_1_2.length = 240 := by decide +kernel
theorem tb_l3 : tables_1_3.length = 240 := by decide +kernel
theorem tb_l4 : tables_1_4.length = 240 := by decide +kernel
theorem tb_l5 : tables_1_5.length = 240 := by decide +kernel
theorem tb_l6 : tables_1_6.length = 240 := by decide +kernel
theorem tb_l7 : tables_1_7.length = 210 := by decide +kernel
theorem tb_g1 {i : Nat} {x : Jvm.Cond} (h : tables_1_1[i]? = some x) : tables_1[0 + i]? = some x := by
  have hi : i < 240 := by
    rw [← tb_l1]
    exact (List.getElem?_eq_some_iff.mp h).1
  unfold tables_1
  rw [List.getElem?_append_left (by rw [tb_l1]; omega)]
  rw [show 0 + i = i by omega]
  exact h
theorem tb_g2 {i : Nat} {x : Jvm.Cond} (h : tables_1_2[i]? = some x) : tables_1[240 + i]? = some x := by
  have hi : i < 240 := by
    rw [← tb_l2]
    exact (List.getElem?_eq_some_iff.mp h).1
  unfold tables_1
  rw [List.getElem?_append_right (by rw [tb_l1]; omega), tb_l1]
  rw [List.getElem?_append_left (by rw [tb_l2]; omega)]
  rw [show 240 + i - 240 = i by omega]
  exact h
theorem tb_g3 {i : Nat} {x : Jvm.Cond} (h : tables_1_3[i]? = some x) : tables_1[480 + i]? = some x := by
  have hi : i < 240 := by
    rw [← tb_l3]
    exact (List.getElem?_eq_some_iff.mp h).1
  unfold tables_1
  rw [List.getElem?_append_right (by rw [tb_l1]; omega), tb_l1]
  rw [List.getElem?_append_right (by rw [tb_l2]; omega), tb_l2]
  rw [List.getElem?_append_left (by rw [tb_l3]; omega)]
  rw [show 480 + i - 240 - 240 = i by omega]
  exact h
theorem tb_g4 {i : Nat} {x : Jvm.Cond} (h : tables_1_4[i]? = some x) : tables_1[720 + i]? = some x := by
  have hi : i < 240 := by
    rw [← tb_l4]
    exact (List.getElem?_eq_some_iff.mp h).1
  unfold tables_1
  rw [List.getElem?_append_right (by rw [tb_l1]; omega), tb_l1]
  rw [List.getElem?_append_right (by rw [tb_l2]; omega), tb_l2]
  rw [List.getElem?_append_right (by rw [tb_l3]; omega), tb_l3]
  rw [List.getElem?_append_left (by rw [tb_l4]; omega)]
  rw [show 720 + i - 240 - 240 - 240 = i by omega]
  exact h
theorem tb_g5 {i : Nat} {x : Jvm.Cond} (h : tables_1_5[i]? = some x) : tables_1[960 + i]? = some x := by
  have hi : i < 240 := by
    rw [← tb_l5]
    exact (List.getElem?_eq_some_iff.mp h).1
  unfold tables_1
  rw [List.getElem?_append_right (by rw [tb_l1]; omega), tb_l1]
  rw [List.getElem?_append_right (by rw [tb_l2]; omega), tb_l2]
  rw [List.getElem?_append_right (by rw [tb_l3]; omega), tb_l3]
  rw [List.getElem?_append_right (by rw [tb_l4]; omega), tb_l4]
  rw [List.getElem?_append_left (by rw [tb_l5]; omega)]
  rw [show 960 + i - 240 - 240 - 240 - 240 = i by omega]
  exact h
theorem tb_g6 {i : Nat} {x : Jvm.Cond} (h : tables_1_6[i]? = some x) : tables_1[1200 + i]? = some x := by
  have hi : i < 240 := by
    rw [← tb_l6]
    exact (List.getElem?_eq_some_iff.mp h).1
  unfold tables_1
  rw [List.getElem?_append_right (by rw [tb_l1]; omega), tb_l1]
  rw [List.getElem?_append_right (by rw [tb_l2]; omega), tb_l2]
  rw [List.getElem?_append_right (by rw [tb_l3]; omega), tb_l3]
  rw [List.getElem?_append_right (by rw [tb_l4]; omega), tb_l4]
  rw [List.getElem?_append_right (by rw [tb_l5]; omega), tb_l5]
  rw [List.getElem?_append_left (by rw [tb_l6]; omega)]
  rw [show 1200 + i - 240 - 240 - 240 - 240 - 240 = i by omega]
  exact h
theorem tb_g7 {i : Nat} {x : Jvm.Cond} (h : tables_1_7[i]? = some x) : tables_1[1440 + i]? = some x := by
  have hi : i < 210 := by
    rw [← tb_l7]
    exact (List.getElem?_eq_some_iff.mp h).1
  unfold tables_1
  rw [List.getElem?_append_right (by rw [tb_l1]; omega), tb_l1]
  rw [List.getElem?_append_right (by rw [tb_l2]; omega), tb_l2]
  rw [List.getElem?_append_right (by rw [tb_l3]; omega), tb_l3]
  rw [List.getElem?_append_right (by rw [tb_l4]; omega), tb_l4]
  rw [List.getElem?_append_right (by rw [tb_l5]; omega), tb_l5]
  rw [List.getElem?_append_right (by rw [tb_l6]; omega), tb_l6]
  rw [show 1440 + i - 240 - 240 - 240 - 240 - 240 - 240 = i by omega]
  exact h
